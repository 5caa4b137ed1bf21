/-! ===== best: the way is told ===== -/
theorem selN_pre {l : List Nat} {s k : Nat} : ∀ d, ∃ r, selN l (k + d) s = selN l k s ++ r
  | 0 => ⟨[], by simp⟩
  | d + 1 => by
    obtain ⟨r, h⟩ := selN_pre (l := l) (s := s) (k := k) d
    refine ⟨r ++ (if s.testBit (k + d) = true then [l.getD (k + d) 0] else []), ?_⟩
    show selN l (k + d) s ++ (if s.testBit (k + d) = true then [l.getD (k + d) 0] else []) = _
    rw [h, List.append_assoc]
/-- an order of family f is told; L: all that family does -/
def ToldAt (S : HS) (D : Pb) (f : Nat) (L : List Nat) (i : Nat) : Prop := gi S 13 0 i = nI f ∧ ∃ (l r : List Nat) (b b' : Nat × Nat), L = l ++ i :: r ∧ runD D f l (st0 D f) = some b ∧ layD D f i b = some b' ∧ gi S 13 1 i = nI b'.1 ∧ gi S 13 2 i = nI (if b.1 = D 0 0 0 then min (D 3 f i) b.2 else 0)
def Blk (S : HS) (i : Nat) : Prop := gi S 13 0 i = -1 ∧ gi S 13 1 i = -1 ∧ gi S 13 2 i = 0
def sPr (D : Pb) (l : List Nat) : Nat := (l.map fun i => D 6 i 0).sum
def sWk (D : Pb) (f : Nat) (l : List Nat) : Nat := (l.map fun i => D 3 f i).sum
theorem tellOrder_eq (N : Nat) (hN : 60 ≤ N) {S : HS} {D : Pb} (hx : Fx S D) {f i : Nat} {b b' : Nat × Nat} (hf : f < 4) (hi : i < D 0 0 1) (h0 : gi S 14 0 0 = nI b.1) (h1 : gi S 14 0 1 = nI b.2) (hb1 : b.1 ≤ 51) (hb2 : b.2 ≤ 99) (hq : layD D f i b = some b') : ∃ Z, f_X4_tellOrder csF N i f (rkC S) (nI (D 0 0 0)) S = some ((), Z) ∧ gi Z 12 0 0 = gi S 12 0 0 + nI (D 6 i 0) ∧ gi Z 12 0 1 = gi S 12 0 1 + nI (D 3 f i) ∧ gi Z 13 0 i = nI f ∧ gi Z 13 1 i = nI b'.1 ∧ gi Z 13 2 i = nI (if b.1 = D 0 0 0 then min (D 3 f i) b.2 else 0) ∧ gi Z 14 0 0 = nI b'.1 ∧ gi Z 14 0 1 = nI b'.2 ∧ ∀ k j, j ≠ i → gi Z 13 k j = gi S 13 k j := by
  have h7 := (hx.oo hi).1
  have hl := hx.l hf hi N
  have ho := hx.o hi
  have ha := hx.a
  have m7 : mc csF 7 i = true := mF (by decide) h7
  have m4 : mc csF 4 f = true := mF (by decide) hf
  have m12 : mc csF 12 0 = true := mF (by decide) (by decide)
  have m14 : mc csF 14 0 = true := mF (by decide) (by decide)
  have i7 : inb (nI i) 7 = true := inb_k h7 (by decide)
  have c7 : (nI i).toNatClampNeg = i := cl_k (by omega)
  have hlay := X0_lay_eq N hN hx hf hi h0 h1 hb2 hb1
  have eb : (b.1, b.2) = b := rfl
  rw [eb, hq] at hlay
  have hlay' : f_X0_lay csF N i f (rkC S) S = some (1, ui (ui S 14 0 0 (nI b'.1)) 14 0 1 (nI b'.2)) := hlay
  have e33 : ∀ t0 : Nat, t0 < 2147483648 → f_X4_tellOrder_33 csF N i f (rkC S) (nI (D 3 f i)) (nI t0) S = some ((), ui (ui (ui (ui (ui (ui (ui S 14 0 0 (nI b'.1)) 14 0 1 (nI b'.2)) 12 0 0 (gi S 12 0 0 + nI (D 6 i 0))) 12 0 1 (gi S 12 0 1 + nI (D 3 f i))) 13 0 i (nI f)) 13 1 i (nI b'.1)) 13 2 i (nI (min (D 3 f i) t0))) := by
    intro t0 ht0
    rw [f_X4_tellOrder_33, m12, ck_t, m14, ck_t, hlay', ob_s, if_neg (by decide), m7, ck_t, lt_s_, lt_s_, m4, ck_t, mF (by decide) (by decide), ck_t]
    simp only [gi_ui_c _ _ _ _ _ _ (show (7 : Nat) ≠ 12 by decide), gi_ui_c _ _ _ _ _ _ (show (7 : Nat) ≠ 13 by decide), gi_ui_c _ _ _ _ _ _ (show (7 : Nat) ≠ 14 by decide), gi_ui_c _ _ _ _ _ _ (show (4 : Nat) ≠ 12 by decide), gi_ui_c _ _ _ _ _ _ (show (4 : Nat) ≠ 14 by decide), gi_ui_c _ _ _ _ _ _ (show (12 : Nat) ≠ 14 by decide), hx.n h7, i7, c7, ck_t, lt_s_, ho.2.1.1, (hx.f hf).1]
    rw [mF (by decide) (by decide), ck_t]
    have hmin : ∀ T : HS, f_J9_min_7cf53 csF N (nI (D 3 f i)) (nI t0) T = some (nI (min (D 3 f i) t0), T) := by
      intro T
      unfold f_J9_min_7cf53
      by_cases q : t0 < D 3 f i
      · rw [if_pos (by rw [nI_ltI (by omega) (by omega)]; exact q), Nat.min_eq_right (by omega)]
      · rw [if_neg (by rw [nI_ltI (by omega) (by omega)]; exact q), Nat.min_eq_left (by omega)]
    rw [hmin, ob_s, mF (by decide) (by decide), ck_t]
    have g1 : gi (ui (ui S 14 0 0 (nI b'.1)) 14 0 1 (nI b'.2)) 12 0 0 = gi S 12 0 0 := by simp [gi_ui]
    have g2 : ∀ v, gi (ui (ui (ui S 14 0 0 (nI b'.1)) 14 0 1 (nI b'.2)) 12 0 0 v) 12 0 1 = gi S 12 0 1 := fun v => by simp [gi_ui]
    have g3 : ∀ v w x, gi (ui (ui (ui (ui (ui S 14 0 0 (nI b'.1)) 14 0 1 (nI b'.2)) 12 0 0 v) 12 0 1 w) 13 0 i x) 14 0 0 = nI b'.1 := fun v w x => by simp [gi_ui]
    simp only [g2, g3]
  have fin : ∀ t0 : Nat, ∃ Z, some ((), ui (ui (ui (ui (ui (ui (ui S 14 0 0 (nI b'.1)) 14 0 1 (nI b'.2)) 12 0 0 (gi S 12 0 0 + nI (D 6 i 0))) 12 0 1 (gi S 12 0 1 + nI (D 3 f i))) 13 0 i (nI f)) 13 1 i (nI b'.1)) 13 2 i (nI t0)) = some ((), Z) ∧ gi Z 12 0 0 = gi S 12 0 0 + nI (D 6 i 0) ∧ gi Z 12 0 1 = gi S 12 0 1 + nI (D 3 f i) ∧ gi Z 13 0 i = nI f ∧ gi Z 13 1 i = nI b'.1 ∧ gi Z 13 2 i = nI t0 ∧ gi Z 14 0 0 = nI b'.1 ∧ gi Z 14 0 1 = nI b'.2 ∧ ∀ k j, j ≠ i → gi Z 13 k j = gi S 13 k j := fun t0 => ⟨_, rfl, by simp [gi_ui], by simp [gi_ui], by simp [gi_ui], by simp [gi_ui], by simp [gi_ui], by simp [gi_ui], by simp [gi_ui], fun k j hj => by simp [gi_ui, hj]⟩
  rw [f_X4_tellOrder, m4, ck_t, m7, ck_t, (hx.f hf).1, hl.1, ob_s, m12, ck_t, m14, ck_t, h0, h1]
  by_cases q : b.1 = D 0 0 0
  · rw [if_pos (by rw [q]), if_pos q, e33 b.2 (by omega)]
    exact fin _
  · rw [if_neg (by rw [nI_eq (by omega) (by omega)]; exact q), if_neg q]
    have := e33 0 (by decide)
    rw [show nI 0 = 0 from rfl] at this
    rw [this]
    have := fin (min (D 3 f i) 0)
    rw [Nat.min_zero] at this ⊢
    exact this
/-- in the midst of family f -/
def TwI (S : HS) (D : Pb) (l0 : List Nat) (Q g : Nat → Nat) (P W f k : Nat) : Prop := (∃ b : Nat × Nat, runD D f (selN l0 k (Q f)) (st0 D f) = some b ∧ gi S 14 0 0 = nI b.1 ∧ gi S 14 0 1 = nI b.2 ∧ b.1 ≤ 51 ∧ b.2 ≤ 99) ∧ gi S 12 0 0 = nI (P + sPr D (selN l0 k (Q f))) ∧ gi S 12 0 1 = nI (W + sWk D f (selN l0 k (Q f))) ∧ ∀ i, i < 7 → (((f < g i ∧ g i < 4) ∨ i ∈ selN l0 k (Q f)) ∧ ToldAt S D (g i) (sel l0 (Q (g i))) i) ∨ (¬ ((f < g i ∧ g i < 4) ∨ i ∈ selN l0 k (Q f)) ∧ Blk S i)
theorem tw109 (N : Nat) (hN : 60 ≤ N) (K : Nat → Int32 → Int32 → Int32 → HS → Option (Unit × HS)) (v5 : Int32) {D : Pb} {l0 : List Nat} {Q g : Nat → Nat} {P W f : Nat} (hf : f < 4) (hl : l0.length ≤ 7) (hm : ∀ j, j ∈ l0 → j < D 0 0 1 ∧ D 8 j 0 = 1) (hQ : Q f < 2 ^ l0.length) (hC : canD D f (sel l0 (Q f))) (hg : ∀ i, i ∈ sel l0 (Q f) ↔ g i = f) (rr : Nat) : ∀ (m n k : Nat) (S : HS), k + m = l0.length → m < n → Fx S D → rkC S = rr → RowC S l0 → TwI S D l0 Q g P W f k → ∃ Z, f_X4_tellWay_109 csF N K n rr (nI (D 0 0 0)) v5 (nI f) (nI (Q f)) (nI k) S = K rr (nI (D 0 0 0)) (v5 ^^^ nI (Q f)) (nI f + -1) Z ∧ TwI Z D l0 Q g P W f l0.length ∧ Md ml_X4_tellWay S Z := by
  have hp := pw_le hl
  intro m
  induction m with
  | zero =>
    intro n k S h1 h2 hx hr hR hT
    obtain ⟨n, rfl⟩ : ∃ k, n = k + 1 := ⟨n - 1, by omega⟩
    have e : k = l0.length := by omega
    subst e
    refine ⟨S, ?_, hT, Md.rf _ S⟩
    rw [f_X4_tellWay_109, mF (by decide) (by decide), ck_t, hR.1, if_pos (by rw [nI_leI (by omega) (by omega)]; omega), lt_s_, lt_s_]
  | succ m ih =>
    intro n k S h1 h2 hx hr hR hT
    obtain ⟨n, rfl⟩ : ∃ k, n = k + 1 := ⟨n - 1, by omega⟩
    have hk : k < l0.length := by omega
    have hi := hm _ (getD_mem hk)
    have hi7 := (hx.oo hi.1).1
    have hQ128 : Q f < 128 := by omega
    rw [f_X4_tellWay_109, mF (by decide) (by decide), ck_t, hR.1, if_neg (by rw [nI_leI (by omega) (by omega)]; omega)]
    by_cases q : (Q f).testBit k = true
    · have es : selN l0 (k + 1) (Q f) = selN l0 k (Q f) ++ [l0.getD k 0] := by
        show selN l0 k (Q f) ++ (if (Q f).testBit k = true then [l0.getD k 0] else []) = _
        rw [if_pos q]
      obtain ⟨⟨b, t1, t2, t3, t4, t5⟩, t6, t7, t8⟩ := hT
      obtain ⟨r, hr'⟩ := selN_pre (l := l0) (s := Q f) (k := k + 1) (l0.length - (k + 1))
      rw [show k + 1 + (l0.length - (k + 1)) = l0.length by omega, ← sel_k hQ hl, es, List.append_assoc, List.singleton_append] at hr'
      have hlay : ∃ b', layD D f (l0.getD k 0) b = some b' := by
        have := hC.2
        rw [hr', run_app, t1] at this
        cases hq : layD D f (l0.getD k 0) b with
        | none =>
          have e : runD D f (l0.getD k 0 :: r) b = none := by unfold runD; rw [hq]
          have this' : (runD D f (l0.getD k 0 :: r) b).isSome = true := this
          rw [e] at this'
          cases this'
        | some b' => exact ⟨b', rfl⟩
      obtain ⟨b', hb'⟩ := hlay
      have hrg := layD_rg hx.ok hf hi.1 t5 (w := b.1) (l := b.2) hb'
      obtain ⟨Z1, z1, z2, z3, z4, z5, z6, z7, z8, z9⟩ := tellOrder_eq N hN hx hf hi.1 t2 t3 t4 t5 hb'
      rw [hr] at z1
      have m1 : Md ml_X4_tellOrder S Z1 := md_X4_tellOrder _ _ _ _ _ _ _ _ _ z1
      have m1' : Md ml_X4_tellWay S Z1 := m1.mono (by decide)
      have gi0 : g (l0.getD k 0) = f := (hg _).mp (by rw [hr']; simp)
      obtain ⟨Z, y1, y2, y3⟩ := ih n (k + 1) Z1 (by omega) (by omega) (hx.sub m1 (by decide)) (by rw [rkC_md m1 rfl]; exact hr) (hR.md m1 rfl (fun _ => rfl)) (by
        refine ⟨⟨b', ?_, z7, z8, hrg.2.2.1, hrg.2.2.2⟩, ?_, ?_, fun i hi7' => ?_⟩
        · rw [es, run_app, t1]
          show runD D f [l0.getD k 0] b = some b'
          unfold runD
          rw [hb']
          rfl
        · rw [z2, t6, nI_add, es]
          congr 1
          simp [sPr]
          omega
        · rw [z3, t7, nI_add, es]
          congr 1
          simp [sWk]
          omega
        · by_cases e : i = l0.getD k 0
          · subst e
            refine Or.inl ⟨Or.inr (by rw [es]; simp), ?_⟩
            rw [gi0]
            exact ⟨z4, selN l0 k (Q f), r, b, b', hr', t1, hb', z5, z6⟩
          · rcases t8 i hi7' with ⟨x1, x2⟩ | ⟨x1, x2⟩
            · refine Or.inl ⟨x1.imp id (fun y => by rw [es]; exact List.mem_append_left _ y), ?_⟩
              unfold ToldAt at x2 ⊢
              rw [z9 0 i e, z9 1 i e, z9 2 i e]
              exact x2
            · refine Or.inr ⟨fun y => x1 (y.imp id (fun y => ?_)), ?_⟩
              · rw [es, List.mem_append, List.mem_singleton] at y
                exact y.resolve_right e
              · unfold Blk at x2 ⊢
                rw [z9 0 i e, z9 1 i e, z9 2 i e]
                exact x2)
      refine ⟨Z, ?_, y2, m1'.trans y3⟩
      rw [if_pos ((bit_1 _ hQ128 k (by omega)).mpr q), mF (by decide) (by decide), ck_t, inb_k (show k < 7 by omega) (by decide), ck_t, mF (by decide) (by decide), ck_t, cl_k (show k < 2147483648 by omega), hR.2 k hk, inb_k hi7 (by decide), ck_t, mF (by decide) (by decide), ck_t, inb_k hf (by decide), ck_t, cl_k (show l0.getD k 0 < 2147483648 by omega), cl_k (show f < 2147483648 by omega), z1, ob_s, lt_s_, nI_1]
      exact y1
    · have es : selN l0 (k + 1) (Q f) = selN l0 k (Q f) := by
        show selN l0 k (Q f) ++ (if (Q f).testBit k = true then [l0.getD k 0] else []) = _
        rw [if_neg q, List.append_nil]
      obtain ⟨Z, y1, y2, y3⟩ := ih n (k + 1) S (by omega) (by omega) hx hr hR (by unfold TwI at hT ⊢; rw [es]; exact hT)
      refine ⟨Z, ?_, y2, y3⟩
      rw [if_neg (fun x => q ((bit_1 _ hQ128 k (by omega)).mp x)), lt_s_, nI_1]
      exact y1
