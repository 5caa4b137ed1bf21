/-- one set more -/
theorem add18 (N : Nat) (hN : 60 ≤ N) {D : Pb} {l0 : List Nat} {f k : Nat} (hf : f < 4) (hk : k < l0.length) (hl : l0.length ≤ 7) (hm : ∀ j, j ∈ l0 → j < D 0 0 1 ∧ D 8 j 0 = 1) (rr : Nat) : ∀ (m n a : Nat) (S : HS), a + m = 2 ^ k → m < n → Fx S D → rkC S = rr → (∀ s, s < 2 ^ k + a → TbC S D l0 f s) → ∃ Z, f_X4_addToSets_18 csF N n (l0.getD k 0) f rr (nI (2 ^ k)) (lI (gainD D f (l0.getD k 0))) (nI a) S = some ((), Z) ∧ ∀ s, s < 2 ^ (k + 1) → TbC Z D l0 f s := by
  have hp : 2 ^ (k + 1) ≤ 128 := pw_le (by omega)
  have hp1 : 2 ^ (k + 1) = 2 ^ k + 2 ^ k := by rw [Nat.pow_succ]; omega
  intro m
  induction m with
  | zero =>
    intro n a S h1 h2 hx hr h3
    obtain ⟨n, rfl⟩ : ∃ k, n = k + 1 := ⟨n - 1, by omega⟩
    refine ⟨S, ?_, fun s hs => h3 s (by omega)⟩
    rw [f_X4_addToSets_18, if_pos (by rw [nI_leI (by omega) (by omega)]; omega)]
  | succ m ih =>
    intro n a S h1 h2 hx hr h3
    obtain ⟨n, rfl⟩ : ∃ k, n = k + 1 := ⟨n - 1, by omega⟩
    have ha : a < 2 ^ k := by omega
    have hs : 2 ^ k + a < 128 := by omega
    have hi := hm _ (getD_mem hk)
    have hi7 := (hx.oo hi.1).1
    have esel := sel_add (l := l0) ha (show k < 7 by omega)
    obtain ⟨t1, t2, t3⟩ := h3 a (by omega)
    have o7 := (hx.o hi.1).2.2.1
    have hD := hx.ok
    have esil : silD D (sel l0 (2 ^ k + a)) = silD D (sel l0 a) + D 7 (l0.getD k 0) 0 := by rw [esel, sil_app]; simp [silD]
    have ernk : rnk D f (sel l0 (2 ^ k + a)) = rnk D f (sel l0 a) + gainD D f (l0.getD k 0) := by rw [esel, rnk_app]; simp [rnk]
    have silb : silD D (sel l0 a) ≤ 28000 := by
      have hb : ∀ l : List Nat, (∀ j, j ∈ l → j < D 0 0 1) → silD D l ≤ 4000 * l.length := by
        intro l
        induction l with
        | nil => intro _; simp [silD]
        | cons j l ihl =>
          intro hj
          have q1 := ihl (fun x hx => hj x (List.mem_cons_of_mem _ hx))
          have q2 := (hD.2.2.1 j (hj j List.mem_cons_self)).2.2
          have e : silD D (j :: l) = D 7 j 0 + silD D l := by unfold silD; rw [List.map_cons, List.sum_cons]
          rw [e, List.length_cons]
          omega
      have h1 := hb (sel l0 a) (fun j hj => by
        obtain ⟨p, p1, p2, p3⟩ := (sel_mem hl (Nat.lt_of_lt_of_le ha (Nat.pow_le_pow_right (by decide) (by omega)))).mp hj
        rw [← p3]
        exact (hm _ (getD_mem p1)).1)
      have h2 := selN_len (l := l0) (s := a) 7
      have h3 : (sel l0 a).length ≤ 7 := h2
      omega
    -- the cells ahead of the laying
    have mu : Md [(14, none, none), (16, none, none)] S (ui (ui (ui S 14 0 0 (gi S 16 0 a)) 14 0 1 (gi S 16 1 a)) 16 2 (2 ^ k + a) (nI (silD D (sel l0 (2 ^ k + a))))) := (((Md.rf _ S).ui rfl rfl).ui rfl rfl).ui rfl rfl
    have e0 : f_X4_addToSets_18 csF N (n + 1) (l0.getD k 0) f rr (nI (2 ^ k)) (lI (gainD D f (l0.getD k 0))) (nI a) S = (if gi S 15 0 a = 0 then f_X4_addToSets_128 csF N (f_X4_addToSets_18 csF N n) (l0.getD k 0) f rr (nI (2 ^ k)) (lI (gainD D f (l0.getD k 0))) (nI a) (nI (2 ^ k + a)) 0 (nI (2 ^ k + a)) (ui (ui (ui S 14 0 0 (gi S 16 0 a)) 14 0 1 (gi S 16 1 a)) 16 2 (2 ^ k + a) (nI (silD D (sel l0 (2 ^ k + a))))) else if nI (D 4 f 0) < nI (silD D (sel l0 (2 ^ k + a))) then f_X4_addToSets_128 csF N (f_X4_addToSets_18 csF N n) (l0.getD k 0) f rr (nI (2 ^ k)) (lI (gainD D f (l0.getD k 0))) (nI a) (nI (2 ^ k + a)) 0 (nI (2 ^ k + a)) (ui (ui (ui S 14 0 0 (gi S 16 0 a)) 14 0 1 (gi S 16 1 a)) 16 2 (2 ^ k + a) (nI (silD D (sel l0 (2 ^ k + a))))) else ob (f_X0_lay csF N (l0.getD k 0) f rr (ui (ui (ui S 14 0 0 (gi S 16 0 a)) 14 0 1 (gi S 16 1 a)) 16 2 (2 ^ k + a) (nI (silD D (sel l0 (2 ^ k + a)))))) (fun r26 S27 => if r26 = 0 then f_X4_addToSets_128 csF N (f_X4_addToSets_18 csF N n) (l0.getD k 0) f rr (nI (2 ^ k)) (lI (gainD D f (l0.getD k 0))) (nI a) (nI (2 ^ k + a)) 0 (nI (2 ^ k + a)) S27 else f_X4_addToSets_128 csF N (f_X4_addToSets_18 csF N n) (l0.getD k 0) f rr (nI (2 ^ k)) (lI (gainD D f (l0.getD k 0))) (nI a) (nI (2 ^ k + a)) 1 (nI (2 ^ k + a)) S27)) := by
      rw [f_X4_addToSets_18, if_neg (by rw [nI_leI (by omega) (by omega)]; omega), lt_s_, or_ad k (by omega) a ha, mF (by decide) (by decide), ck_t, mF (by decide) (by decide), ck_t, inb_k (show a < 128 by omega) (by decide), ck_t, mF (by decide) (by decide), ck_t, lt_s_, mF (by decide) (by decide), ck_t, ck_t, lt_s_, mF (by decide) (by decide), ck_t, ck_t, mF (by decide) (show l0.getD k 0 < 7 from hi7), ck_t, inb_k hs (by decide), ck_t, lt_s_, mF (by decide) (by decide), ck_t, ck_t, ck_t, mF (by decide) (show f < 4 from hf), ck_t, cl_k (show a < 2147483648 by omega), cl_k (show 2 ^ k + a < 2147483648 by omega)]
      have x1 : gi (ui (ui S 14 0 0 (gi S 16 0 a)) 14 0 1 (gi (ui S 14 0 0 (gi S 16 0 a)) 16 1 a)) 16 2 a = gi S 16 2 a := by rw [gi_ui_c _ _ _ _ _ _ (by decide), gi_ui_c _ _ _ _ _ _ (by decide)]
      have x2 : gi (ui (ui S 14 0 0 (gi S 16 0 a)) 14 0 1 (gi (ui S 14 0 0 (gi S 16 0 a)) 16 1 a)) 7 (l0.getD k 0) 7 = gi S 7 (l0.getD k 0) 7 := by rw [gi_ui_c _ _ _ _ _ _ (by decide), gi_ui_c _ _ _ _ _ _ (by decide)]
      have x3 : gi (ui S 14 0 0 (gi S 16 0 a)) 16 1 a = gi S 16 1 a := by rw [gi_ui_c _ _ _ _ _ _ (by decide)]
      rw [x1, x2, x3, t1, o7.1, nI_add, ← esil, mu.gi 15 0 a rfl, mu.gi 4 f 2 rfl, gi_ui_s, (hx.f hf).2.1]
    rw [e0]
    have hxm := hx.sub mu (by decide)
    have hrm : rkC (ui (ui (ui S 14 0 0 (gi S 16 0 a)) 14 0 1 (gi S 16 1 a)) 16 2 (2 ^ k + a) (nI (silD D (sel l0 (2 ^ k + a))))) = rr := by rw [rkC_md mu rfl]; exact hr
    have b0 : gi (ui (ui (ui S 14 0 0 (gi S 16 0 a)) 14 0 1 (gi S 16 1 a)) 16 2 (2 ^ k + a) (nI (silD D (sel l0 (2 ^ k + a))))) 14 0 0 = gi S 16 0 a := by simp [gi_ui]
    have b1 : gi (ui (ui (ui S 14 0 0 (gi S 16 0 a)) 14 0 1 (gi S 16 1 a)) 16 2 (2 ^ k + a) (nI (silD D (sel l0 (2 ^ k + a))))) 14 0 1 = gi S 16 1 a := by simp [gi_ui]
    have b2 : ∀ j, gi (ui (ui (ui S 14 0 0 (gi S 16 0 a)) 14 0 1 (gi S 16 1 a)) 16 2 (2 ^ k + a) (nI (silD D (sel l0 (2 ^ k + a))))) 16 2 j = if j = 2 ^ k + a then nI (silD D (sel l0 (2 ^ k + a))) else gi S 16 2 j := fun j => by simp [gi_ui]
    have b3 : ∀ c j, c ≠ 2 → gi (ui (ui (ui S 14 0 0 (gi S 16 0 a)) 14 0 1 (gi S 16 1 a)) 16 2 (2 ^ k + a) (nI (silD D (sel l0 (2 ^ k + a))))) 16 c j = gi S 16 c j := fun c j hc => by simp [gi_ui, hc]
    have b4 : ∀ j, gi (ui (ui (ui S 14 0 0 (gi S 16 0 a)) 14 0 1 (gi S 16 1 a)) 16 2 (2 ^ k + a) (nI (silD D (sel l0 (2 ^ k + a))))) 15 0 j = gi S 15 0 j := fun j => mu.gi _ _ _ rfl
    have b5 : ∀ j, gl (ui (ui (ui S 14 0 0 (gi S 16 0 a)) 14 0 1 (gi S 16 1 a)) 16 2 (2 ^ k + a) (nI (silD D (sel l0 (2 ^ k + a))))) 17 0 j = gl S 17 0 j := fun j => mu.gl _ _ _ rfl
    generalize hS1 : ui (ui (ui S 14 0 0 (gi S 16 0 a)) 14 0 1 (gi S 16 1 a)) 16 2 (2 ^ k + a) (nI (silD D (sel l0 (2 ^ k + a)))) = S1 at *
    -- the end of a turn
    have fin : ∀ (T : HS) (t : Int32), t = 0 ∨ t = 1 → Md [(14, some 0, some 0), (14, some 0, some 1)] S1 T → ((canD D f (sel l0 (2 ^ k + a)) ∧ t = 1 ∧ ∃ b : Nat × Nat, runD D f (sel l0 (2 ^ k + a)) (st0 D f) = some b ∧ gi T 14 0 0 = nI b.1 ∧ gi T 14 0 1 = nI b.2 ∧ b.1 ≤ 51 ∧ b.2 ≤ 99) ∨ (¬ canD D f (sel l0 (2 ^ k + a)) ∧ t = 0)) → ∃ Z, f_X4_addToSets_128 csF N (f_X4_addToSets_18 csF N n) (l0.getD k 0) f rr (nI (2 ^ k)) (lI (gainD D f (l0.getD k 0))) (nI a) (nI (2 ^ k + a)) t (nI (2 ^ k + a)) T = some ((), Z) ∧ ∀ s, s < 2 ^ (k + 1) → TbC Z D l0 f s := by
      intro T t ht mT hc
      rw [ad128 N _ _ _ _ _ _ (by omega) hs t ht]
      have mA : Md [(15, some 0, none), (16, some 0, none), (16, some 1, none), (17, some 0, none)] T (adT T (2 ^ k + a) a t (lI (gainD D f (l0.getD k 0)))) := by
        unfold adT
        exact ((((Md.rf _ T).ui rfl rfl).ui rfl rfl).ui rfl rfl).ul rfl rfl
      refine ih n (a + 1) _ (by omega) (by omega) ((hxm.sub mT (by decide)).sub mA (by decide)) (by rw [rkC_md mA rfl, rkC_md mT rfl]; exact hrm) (fun s hs' => ?_)
      by_cases e : s = 2 ^ k + a
      · subst e
        unfold TbC
        refine ⟨?_, ?_, ?_⟩
        · rw [mA.gi 16 2 _ rfl, mT.gi 16 2 _ rfl, b2, if_pos rfl]
        · unfold adT
          rw [gl_ul_s, mT.gl 17 0 a rfl, b5, t2, lI_add, ernk]
        · have x15 : gi (adT T (2 ^ k + a) a t (lI (gainD D f (l0.getD k 0)))) 15 0 (2 ^ k + a) = t := by unfold adT; simp [gi_ul, gi_ui]
          have x160 : gi (adT T (2 ^ k + a) a t (lI (gainD D f (l0.getD k 0)))) 16 0 (2 ^ k + a) = gi T 14 0 0 := by unfold adT; simp [gi_ul, gi_ui]
          have x161 : gi (adT T (2 ^ k + a) a t (lI (gainD D f (l0.getD k 0)))) 16 1 (2 ^ k + a) = gi T 14 0 1 := by unfold adT; simp [gi_ul, gi_ui]
          rw [x15, x160, x161]
          exact hc
      · refine TbC_ne (h3 s (by omega)) ?_ ?_ ?_ ?_ ?_
        · rw [mA.gi 16 2 _ rfl, mT.gi 16 2 _ rfl, b2, if_neg e]
        · unfold adT
          rw [gl_ul, if_neg (fun x => e x.2.2), gl_ui, gl_ui, gl_ui, mT.gl 17 0 s rfl, b5]
        · unfold adT
          rw [gi_ul, gi_ui_c _ _ _ _ _ _ (by decide), gi_ui_c _ _ _ _ _ _ (by decide), gi_ui_j _ _ _ _ _ _ e, mT.gi 15 0 s rfl, b4]
        · unfold adT
          rw [gi_ul, gi_ui_k _ _ _ _ _ _ (by decide), gi_ui_j _ _ _ _ _ _ e, gi_ui_c _ _ _ _ _ _ (by decide), mT.gi 16 0 s rfl, b3 0 s (by decide)]
        · unfold adT
          rw [gi_ul, gi_ui_j _ _ _ _ _ _ e, gi_ui_k _ _ _ _ _ _ (by decide), gi_ui_c _ _ _ _ _ _ (by decide), mT.gi 16 1 s rfl, b3 1 s (by decide)]
    have D4 := (hx.f hf).2.2.2
    rcases t3 with ⟨u1, u2, b, u3, u4, u5, u6, u7⟩ | ⟨u1, u2⟩
    · rw [if_neg (by rw [u2]; decide)]
      by_cases q : D 4 f 0 < silD D (sel l0 (2 ^ k + a))
      · rw [if_pos (by rw [nI_ltI (by omega) (by omega)]; exact q)]
        refine fin S1 0 (Or.inl rfl) (Md.rf _ _) (Or.inr ⟨fun x => ?_, rfl⟩)
        have := x.1
        omega
      · rw [if_neg (by rw [nI_ltI (by omega) (by omega)]; exact q)]
        have hlay := X0_lay_eq N hN hxm hf hi.1 (by rw [b0]; exact u4) (by rw [b1]; exact u5) u7 u6
        rw [hrm] at hlay
        rw [hlay]
        have hrun : runD D f (sel l0 (2 ^ k + a)) (st0 D f) = layD D f (l0.getD k 0) b := by
          rw [esel, run_app, u3]
          show runD D f [l0.getD k 0] b = _
          unfold runD
          cases layD D f (l0.getD k 0) b with
          | none => rfl
          | some b' => rfl
        have eb : (b.1, b.2) = b := rfl
        rw [eb]
        cases hq : layD D f (l0.getD k 0) b with
        | none =>
          show ∃ Z, ob (some ((0 : Int32), S1)) _ = _ ∧ _
          rw [ob_s, if_pos rfl]
          refine fin S1 0 (Or.inl rfl) (Md.rf _ _) (Or.inr ⟨fun x => ?_, rfl⟩)
          have := x.2
          rw [hrun, hq] at this
          cases this
        | some b' =>
          show ∃ Z, ob (some ((1 : Int32), ui (ui S1 14 0 0 (nI b'.1)) 14 0 1 (nI b'.2))) _ = _ ∧ _
          rw [ob_s, if_neg (by decide)]
          have hrg := layD_rg hD hf hi.1 u7 hq
          refine fin _ 1 (Or.inr rfl) (((Md.rf _ _).ui rfl rfl).ui rfl rfl) (Or.inl ⟨⟨by omega, by rw [hrun, hq]; rfl⟩, rfl, b', by rw [hrun, hq], by simp [gi_ui], by simp [gi_ui], hrg.2.2.1, hrg.2.2.2⟩)
    · rw [if_pos u2]
      refine fin S1 0 (Or.inl rfl) (Md.rf _ _) (Or.inr ⟨fun x => u1 ?_, rfl⟩)
      rw [esel] at x
      exact can_pre x
