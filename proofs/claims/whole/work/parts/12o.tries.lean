/-! ===== best: all ways are tried ===== -/
def cand (D : Pb) (g : Nat → Nat) : Prop := (∀ i, g i ≤ 4) ∧ ∀ i, g i < 4 → i < D 0 0 1 ∧ D 8 i 0 = 1
def gvI (k : Nat) : Int32 := if k < 4 then nI k else -1
/-- the best among all ways whose families are at least d as a number -/
def BsM (S : HS) (D : Pb) (d : Int) : Prop := (gi S 30 0 42 = -1 ∧ ∀ g, wayOk D g → dgD g < d) ∨ ∃ h, wayOk D h ∧ d ≤ dgD h ∧ gi S 30 0 42 = nI (prD D h).toNat ∧ gi S 30 0 43 = nI (wkD D h).toNat ∧ (∀ j, j < D 0 0 1 → gi S 31 23 j = gvI (h j)) ∧ ∀ g, wayOk D g → d ≤ dgD g → rankD D g ≤ rankD D h
/-- the sets and what is given, in the midst -/
def TrS (S : HS) (D : Pb) (g : Nat → Nat) (i : Nat) : Prop := (∀ f, f < 4 → gi S 31 24 f = nI (msk g f)) ∧ (∀ j, j < i → gi S 31 22 j = gvI (g j)) ∧ ∀ f, f < 4 → ∀ t, t < 2 ^ D 0 0 1 → CaM S D f t
theorem BsM.same {S Z : HS} {D : Pb} {d d' : Int} (h : BsM S D d) (e1 : gi Z 30 0 42 = gi S 30 0 42) (e2 : gi Z 30 0 43 = gi S 30 0 43) (e3 : ∀ j, gi Z 31 23 j = gi S 31 23 j) (hd : d' ≤ d) (hno : ∀ g, wayOk D g → d' ≤ dgD g → d ≤ dgD g) : BsM Z D d' := by
  unfold BsM at h ⊢
  rw [e1, e2]
  rcases h with ⟨a, b⟩ | ⟨h, a1, a2, a3, a4, a5, a6⟩
  · refine Or.inl ⟨a, fun g hg => ?_⟩
    apply Classical.byContradiction
    intro hn
    have := hno g hg (by omega)
    have := b g hg
    omega
  · exact Or.inr ⟨h, a1, by omega, a3, a4, fun j hj => by rw [e3]; exact a5 j hj, fun g hg hd' => a6 g hg (hno g hg hd')⟩
theorem canAll_eq (N : Nat) {S : HS} {D : Pb} (hx : Mx S D) {g : Nat → Nat} (hg : cand D g) {i : Nat} (hT : TrS S D g i) : ∃ r, f_X9_canAll csF N S = some (r, S) ∧ ((r = 0 ∧ ¬ wayOk D g) ∨ (r = 1 ∧ wayOk D g)) := by
  have ha := hx.a
  have hD := hx.ok
  obtain ⟨t1, t2, t3⟩ := hT
  have hp : ∀ f, f < 4 → msk g f < 2 ^ D 0 0 1 := fun f hf => msk_pw (fun j _ hj => (hg.2 j hj).1) hf
  have cell : ∀ f, f < 4 → ∃ v : Bool, gi S 32 1 (128 * f + msk g f) = (if v = true then 1 else 0) ∧ (v = true ↔ ∀ l, rowOk D l → (∀ j, j ∈ l ↔ g j = f) → canD D f l) := by
    intro f hf
    obtain ⟨l, l1, l2, l3⟩ := t3 f hf (msk g f) (hp f hf)
    have mem : ∀ j, j ∈ l ↔ g j = f := fun j => by
      rw [l2 j]
      constructor
      · rintro ⟨a, b⟩
        rw [msk_bits g f (by omega)] at b
        exact of_decide_eq_true b
      · intro e
        have := (hg.2 j (by omega)).1
        exact ⟨this, by rw [msk_bits g f (by omega)]; exact decide_eq_true e⟩
    refine ⟨mdo D f l 0 (st0 D f), l3, ?_⟩
    have hh := hx.h hf (show D 0 0 0 < 52 by omega)
    rw [mdo_iff hD hf l 0 (st0 D f) (fun j hj => hg.2 j (by rw [(mem j).mp hj]; exact hf)) (Nat.zero_le _) ha.2.2.2.2.1 hh.2.2, Nat.zero_add]
    constructor
    · intro q l' r1 r2
      rw [row_uq l' l r1 l1 (fun j => by rw [r2 j, mem j])]
      exact q
    · intro q
      exact q l l1 mem
  obtain ⟨v0, a0, b0⟩ := cell 0 (by decide)
  obtain ⟨v1, a1, b1⟩ := cell 1 (by decide)
  obtain ⟨v2, a2, b2⟩ := cell 2 (by decide)
  obtain ⟨v3, a3, b3⟩ := cell 3 (by decide)
  have k0 := msk_lt g 0; have k1 := msk_lt g 1; have k2 := msk_lt g 2; have k3 := msk_lt g 3
  rw [show 128 * 0 + msk g 0 = msk g 0 by omega] at a0
  have c0 : (0 : Int32).toNatClampNeg = 0 := rfl
  have c1 : (1 : Int32).toNatClampNeg = 1 := rfl
  have c2 : (2 : Int32).toNatClampNeg = 2 := rfl
  have c3 : (3 : Int32).toNatClampNeg = 3 := rfl
  have i0 : inb 0 4 = true := by decide
  have i1 : inb 1 4 = true := by decide
  have i2 : inb 2 4 = true := by decide
  have i3 : inb 3 4 = true := by decide
  have s1 : (128 : Int32) + nI (msk g 1) = nI (128 * 1 + msk g 1) := by rw [show (128 : Int32) = nI 128 from rfl, nI_add]
  have s2 : (256 : Int32) + nI (msk g 2) = nI (128 * 2 + msk g 2) := by rw [show (256 : Int32) = nI 256 from rfl, nI_add]
  have s3 : (384 : Int32) + nI (msk g 3) = nI (128 * 3 + msk g 3) := by rw [show (384 : Int32) = nI 384 from rfl, nI_add]
  have e : f_X9_canAll csF N S = some (if v0 = true ∧ v1 = true ∧ v2 = true ∧ v3 = true then 1 else 0, S) := by
    rw [f_X9_canAll, mF (by decide) (by decide), ck_t, mF (by decide) (by decide), ck_t, i0, ck_t, mF (by decide) (by decide), ck_t, c0, t1 0 (by decide), inb_k (show msk g 0 < 512 by omega) (by decide), ck_t, cl_k (show msk g 0 < 2147483648 by omega), a0, i1, ck_t, c1, t1 1 (by decide), s1, inb_k (show 128 * 1 + msk g 1 < 512 by omega) (by decide), ck_t, cl_k (show 128 * 1 + msk g 1 < 2147483648 by omega), a1, i2, ck_t, c2, t1 2 (by decide), s2, inb_k (show 128 * 2 + msk g 2 < 512 by omega) (by decide), ck_t, cl_k (show 128 * 2 + msk g 2 < 2147483648 by omega), a2, i3, ck_t, c3, t1 3 (by decide), s3, inb_k (show 128 * 3 + msk g 3 < 512 by omega) (by decide), ck_t, cl_k (show 128 * 3 + msk g 3 < 2147483648 by omega), a3]
    cases v0 <;> cases v1 <;> cases v2 <;> cases v3 <;> rfl
  have hw : (v0 = true ∧ v1 = true ∧ v2 = true ∧ v3 = true) ↔ wayOk D g := by
    rw [b0, b1, b2, b3]
    constructor
    · rintro ⟨x0, x1, x2, x3⟩
      refine ⟨hg.1, hg.2, fun f hf l r1 r2 => ?_⟩
      rcases (show f = 0 ∨ f = 1 ∨ f = 2 ∨ f = 3 by omega) with rfl | rfl | rfl | rfl
      · exact x0 l r1 r2
      · exact x1 l r1 r2
      · exact x2 l r1 r2
      · exact x3 l r1 r2
    · intro x
      exact ⟨x.2.2 0 (by decide), x.2.2 1 (by decide), x.2.2 2 (by decide), x.2.2 3 (by decide)⟩
  refine ⟨_, e, ?_⟩
  by_cases q : v0 = true ∧ v1 = true ∧ v2 = true ∧ v3 = true
  · rw [if_pos q]; exact Or.inr ⟨rfl, hw.mp q⟩
  · rw [if_neg q]; exact Or.inl ⟨rfl, fun x => q (hw.mpr x)⟩
theorem tr53 (N : Nat) (self : Int32 → Int32 → Int32 → HS → Option (Unit × HS)) {D : Pb} {g : Nat → Nat} : ∀ (m n k : Nat) (S : HS), k + m = D 0 0 1 → m < n → Mx S D → (∀ j, j < D 0 0 1 → gi S 31 22 j = gvI (g j)) → (∀ j, j < k → gi S 31 23 j = gvI (g j)) → ∃ Z, f_X9_tries_53 csF N self n (nI k) S = some ((), Z) ∧ (∀ j, j < D 0 0 1 → gi Z 31 23 j = gvI (g j)) ∧ Md [(31, some 23, none)] S Z := by
  intro m
  induction m with
  | zero =>
    intro n k S h1 h2 hx h3 h4
    obtain ⟨n, rfl⟩ : ∃ k, n = k + 1 := ⟨n - 1, by omega⟩
    have ha := hx.a
    refine ⟨S, ?_, fun j hj => h4 j (by omega), Md.rf _ S⟩
    rw [f_X9_tries_53, mF (by decide) (by decide), ck_t, ha.2.2.2.1, if_pos (by rw [nI_leI (by omega) (by omega)]; omega)]
  | succ m ih =>
    intro n k S h1 h2 hx h3 h4
    obtain ⟨n, rfl⟩ : ∃ k, n = k + 1 := ⟨n - 1, by omega⟩
    have ha := hx.a
    have mu : Md [(31, some 23, none)] S (ui S 31 23 k (gvI (g k))) := (Md.rf _ S).ui rfl rfl
    obtain ⟨Z, z1, z2, z3⟩ := ih n (k + 1) (ui S 31 23 k (gvI (g k))) (by omega) (by omega) (hx.sub mu (by decide)) (fun j hj => by rw [mu.gi _ _ _ rfl]; exact h3 j hj) (fun j hj => by
      by_cases e : j = k
      · rw [e, gi_ui_s]
      · rw [gi_ui_j _ _ _ _ _ _ e]; exact h4 j (by omega))
    refine ⟨Z, ?_, z2, mu.trans z3⟩
    rw [f_X9_tries_53, mF (by decide) (by decide), ck_t, ha.2.2.2.1, if_neg (by rw [nI_leI (by omega) (by omega)]; omega), mF (by decide) (by decide), ck_t, inb_k (show k < 7 by omega) (by decide), ck_t, mF (by decide) (by decide), ck_t, ck_t, lt_s_, lt_s_, cl_k (by omega), nI_1, h3 k (by omega)]
    exact z1
theorem cand_way {D : Pb} {g : Nat → Nat} (h : wayOk D g) : cand D g := ⟨h.1, h.2.1⟩
theorem way_ext {D : Pb} {g g' : Nat → Nat} (e : ∀ i, g i = g' i) (h : wayOk D g) : wayOk D g' := by
  have : g = g' := funext e
  rw [← this]; exact h
/-- the last step: a way is looked at -/
theorem leaf (N : Nat) (hN : 60 ≤ N) (self : Int32 → Int32 → Int32 → HS → Option (Unit × HS)) {S : HS} {D : Pb} (hx : Mx S D) {g : Nat → Nat} (hg : cand D g) (hT : TrS S D g (D 0 0 1)) (hB : BsM S D (dgD g + pw5 (D 0 0 1))) : ∃ Z, f_X9_tries_0 csF N self (nI (D 0 0 1)) (nI (prD D g).toNat) (nI (wkD D g).toNat) S = some ((), Z) ∧ BsM Z D (dgD g) ∧ TrS Z D g (D 0 0 1) := by
  have ha := hx.a
  have hD := hx.ok
  have h7 := ha.2.2.2.2.2
  have hp := pr_rng hD hg.2
  have hw := wk_rng hD hg.2
  have m30 : mc csF 30 0 = true := mF (by decide) (by decide)
  -- between the two numbers lies this way alone
  have one : ∀ g', wayOk D g' → dgD g ≤ dgD g' → dgD g' < dgD g + pw5 (D 0 0 1) → ∀ i, g' i = g i := fun g' hg' e1 e2 i => by
    have pre := dg_pre hg.1 hg'.1 h7 (fun j hj => by
      have := hg.1 j
      apply Classical.byContradiction
      intro hn
      have := (hg.2 j (by omega)).1
      omega) e1 e2
    by_cases q : i < D 0 0 1
    · exact pre i q
    · have a1 := hg.1 i; have a2 := hg'.1 i
      have b1 : ¬ g i < 4 := fun x => q (hg.2 i x).1
      have b2 : ¬ g' i < 4 := fun x => q (hg'.2.1 i x).1
      omega
  have hpw : (0 : Int) < pw5 (D 0 0 1) := by
    unfold pw5
    split <;> decide
  -- nothing changes
  have stay : (¬ wayOk D g ∨ ∃ h, wayOk D h ∧ dgD g + pw5 (D 0 0 1) ≤ dgD h ∧ gi S 30 0 42 = nI (prD D h).toNat ∧ gi S 30 0 43 = nI (wkD D h).toNat ∧ (∀ j, j < D 0 0 1 → gi S 31 23 j = gvI (h j)) ∧ (∀ g', wayOk D g' → dgD g + pw5 (D 0 0 1) ≤ dgD g' → rankD D g' ≤ rankD D h) ∧ rankD D g ≤ rankD D h) → BsM S D (dgD g) := by
    rintro (hn | ⟨h, a1, a2, a3, a4, a5, a6, a7⟩)
    · refine hB.same rfl rfl (fun _ => rfl) (by omega) (fun g' hg' hd => ?_)
      apply Classical.byContradiction
      intro hc
      exact hn (way_ext (one g' hg' hd (by omega)) hg')
    · refine Or.inr ⟨h, a1, by omega, a3, a4, a5, fun g' hg' hd => ?_⟩
      by_cases q : dgD g + pw5 (D 0 0 1) ≤ dgD g'
      · exact a6 g' hg' q
      · have e : g' = g := funext (one g' hg' hd (by omega))
        rw [e]; exact a7
  -- the way is taken, if it can be
  have take : (∀ h, wayOk D h → dgD g + pw5 (D 0 0 1) ≤ dgD h → rankD D h ≤ rankD D g) → ∃ Z, f_X9_tries_32 csF N self (nI (prD D g).toNat) (nI (wkD D g).toNat) S = some ((), Z) ∧ BsM Z D (dgD g) ∧ TrS Z D g (D 0 0 1) := by
    intro hbest
    obtain ⟨r, e1, e2⟩ := canAll_eq N hx hg hT
    rw [f_X9_tries_32, m30, ck_t, e1, ob_s]
    rcases e2 with ⟨rfl, hn⟩ | ⟨rfl, hy⟩
    · rw [if_pos rfl]
      exact ⟨S, rfl, stay (Or.inl hn), hT⟩
    · rw [if_neg (by decide), lt_s_, lt_s_]
      have mu : Md [(30, some 0, some 42), (30, some 0, some 43)] S (ui (ui S 30 0 42 (nI (prD D g).toNat)) 30 0 43 (nI (wkD D g).toNat)) := ((Md.rf _ S).ui rfl rfl).ui rfl rfl
      obtain ⟨Z, z1, z2, z3⟩ := tr53 N self (g := g) (D 0 0 1) N 0 _ (by omega) (by omega) (hx.sub mu (by decide)) (fun j hj => by rw [mu.gi _ _ _ rfl]; exact hT.2.1 j hj) (fun j hj => by omega)
      have m2 := mu.app z3
      refine ⟨Z, z1, Or.inr ⟨g, hy, Int.le_refl _, by rw [z3.gi _ _ _ rfl]; simp [gi_ui], by rw [z3.gi _ _ _ rfl]; simp [gi_ui], z2, fun g' hg' hd => ?_⟩, fun f hf => by rw [m2.gi _ _ _ rfl]; exact hT.1 f hf, fun j hj => by rw [m2.gi _ _ _ rfl]; exact hT.2.1 j hj, fun f hf t ht => (hT.2.2 f hf t ht).eq (m2.gi _ _ _ rfl)⟩
      by_cases q : dgD g + pw5 (D 0 0 1) ≤ dgD g'
      · exact hbest g' hg' q
      · have e : g' = g := funext (one g' hg' hd (by omega))
        rw [e]; exact Int.le_refl _
  have fin : (∃ Z, f_X9_tries_0 csF N self (nI (D 0 0 1)) (nI (prD D g).toNat) (nI (wkD D g).toNat) S = some ((), Z) ∧ BsM Z D (dgD g) ∧ TrS Z D g (D 0 0 1)) := by
    rw [f_X9_tries_0, m30, ck_t, ha.2.2.2.1, if_pos rfl]
    rcases id hB with ⟨a, b⟩ | ⟨h, a1, a2, a3, a4, a5, a6⟩
    · rw [a, if_neg (by rw [i_lt, nI_toInt (by omega), show (-1 : Int32).toInt = -1 from rfl]; omega), if_neg (nI_nm1 (by omega))]
      exact take (fun h hh hd => by have := b h hh; omega)
    · have hp' := pr_rng hD a1.2.1
      have hw' := wk_rng hD a1.2.1
      have rl := rank_le hD hg.1 a1.1 hg.2 a1.2.1
      have rl' := rank_le hD a1.1 hg.1 a1.2.1 hg.2
      rw [a3, a4]
      by_cases q1 : prD D g < prD D h
      · rw [if_pos (by rw [nI_ltI (by omega) (by omega)]; omega)]
        exact ⟨S, rfl, stay (Or.inr ⟨h, a1, a2, a3, a4, a5, a6, rl.mpr (Or.inl q1)⟩), hT⟩
      · rw [if_neg (by rw [nI_ltI (by omega) (by omega)]; omega)]
        by_cases q2 : prD D g = prD D h
        · rw [if_pos (by rw [q2])]
          by_cases q3 : wkD D h ≤ wkD D g
          · rw [if_pos (by rw [nI_leI (by omega) (by omega)]; omega)]
            refine ⟨S, rfl, stay (Or.inr ⟨h, a1, a2, a3, a4, a5, a6, rl.mpr (Or.inr ⟨q2, ?_⟩)⟩), hT⟩
            by_cases q4 : wkD D h < wkD D g
            · exact Or.inl q4
            · exact Or.inr ⟨by omega, by omega⟩
          · rw [if_neg (by rw [nI_leI (by omega) (by omega)]; omega)]
            refine take (fun h' hh' hd' => Int.le_trans (a6 h' hh' hd') (rl'.mpr (Or.inr ⟨q2.symm, Or.inl (by omega)⟩)))
        · rw [if_neg (by rw [nI_eq (by omega) (by omega)]; omega)]
          refine take (fun h' hh' hd' => Int.le_trans (a6 h' hh' hd') (rl'.mpr (Or.inl (by omega))))
  exact fin
