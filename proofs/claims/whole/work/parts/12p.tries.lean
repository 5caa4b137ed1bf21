theorem dg_hi {g g' : Nat → Nat} (h : ∀ i, g i ≤ 4) (h' : ∀ i, g' i ≤ 4) {i : Nat} (hi : i ≤ 7) (h4 : ∀ j, i ≤ j → g j = 4) (e : ∀ j, j < i → g' j = g j) : dgD g' < dgD g + pw5 i := by
  rw [dg_sum h, dg_sum h']
  unfold sum7
  simp only [un5]
  have b0 := h' 0; have b1 := h' 1; have b2 := h' 2; have b3 := h' 3; have b4 := h' 4; have b5 := h' 5; have b6 := h' 6
  have k : ∀ j, (j < i → g' j = g j) ∧ (i ≤ j → g j = 4) := fun j => ⟨e j, h4 j⟩
  have k0 := k 0; have k1 := k 1; have k2 := k 2; have k3 := k 3; have k4 := k 4; have k5 := k 5; have k6 := k 6
  rcases (show i = 0 ∨ i = 1 ∨ i = 2 ∨ i = 3 ∨ i = 4 ∨ i = 5 ∨ i = 6 ∨ i = 7 by omega) with e | e | e | e | e | e | e | e <;> subst e <;> simp only [pw5] <;> simp at k0 k1 k2 k3 k4 k5 k6 <;> omega
theorem up_le {g : Nat → Nat} (h : ∀ i, g i ≤ 4) {i f : Nat} (hf : f < 4) : ∀ j, gup g i f j ≤ 4 := fun j => by
  unfold gup
  split
  · omega
  · exact h j
theorem pr_up (D : Pb) {g : Nat → Nat} {i f : Nat} (hi : i < 7) (hf : f < 4) (h4 : g i = 4) : prD D (gup g i f) = prD D g + D 6 i 0 := by
  unfold prD
  have e : (fun j => if gup g i f j < 4 then (D 6 j 0 : Int) else 0) = fun j => if j = i then (D 6 i 0 : Int) else (fun j => if g j < 4 then (D 6 j 0 : Int) else 0) j := by
    funext j
    by_cases q : j = i
    · subst q; simp [gup, hf]
    · simp [gup, q]
  rw [e, sum7_upd _ hi]
  simp [h4]
theorem wk_up (D : Pb) {g : Nat → Nat} {i f : Nat} (hi : i < 7) (hf : f < 4) (h4 : g i = 4) : wkD D (gup g i f) = wkD D g + D 3 f i := by
  unfold wkD
  have e : (fun j => if gup g i f j < 4 then (D 3 (gup g i f j) j : Int) else 0) = fun j => if j = i then (D 3 f i : Int) else (fun j => if g j < 4 then (D 3 (g j) j : Int) else 0) j := by
    funext j
    by_cases q : j = i
    · subst q; simp [gup, hf]
    · simp [gup, q]
  rw [e, sum7_upd _ hi]
  simp [h4]
theorem dg_up {g : Nat → Nat} {i f : Nat} (hi : i < 7) (hf : f < 4) (h4 : g i = 4) : dgD (gup g i f) = dgD g + (4 - (f : Int)) * (un5 i : Int) := by
  unfold dgD
  have e : (fun j => if gup g i f j < 4 then (4 - (gup g i f j : Int)) * (un5 j : Int) else 0) = fun j => if j = i then (4 - (f : Int)) * (un5 i : Int) else (fun j => if g j < 4 then (4 - (g j : Int)) * (un5 j : Int) else 0) j := by
    funext j
    by_cases q : j = i
    · subst q; simp [gup, hf]
    · simp [gup, q]
  rw [e, sum7_upd _ hi]
  simp [h4]
theorem TrS.weak {S : HS} {D : Pb} {g : Nat → Nat} {i : Nat} (h : TrS S D g (i + 1)) : TrS S D g i := ⟨h.1, fun j hj => h.2.1 j (by omega), h.2.2⟩
theorem tries_eq (N : Nat) (hN : 60 ≤ N) {D : Pb} : ∀ (d i : Nat) (g : Nat → Nat) (S : HS), i ≤ D 0 0 1 → D 0 0 1 < i + d → cand D g → (∀ j, i ≤ j → g j = 4) → Mx S D → TrS S D g i → BsM S D (dgD g + pw5 i) → ∃ Z, f_X9_tries csF N d (nI i) (nI (prD D g).toNat) (nI (wkD D g).toNat) S = some ((), Z) ∧ BsM Z D (dgD g) ∧ TrS Z D g i := by
  intro d
  induction d with
  | zero => intro i g S h1 h2; omega
  | succ d ih =>
    intro i g S h1 h2 hg h4 hx hT hB
    show ∃ Z, f_X9_tries_0 csF N (f_X9_tries csF N d) (nI i) (nI (prD D g).toNat) (nI (wkD D g).toNat) S = some ((), Z) ∧ _
    have ha := hx.a
    have hD := hx.ok
    have h7 := ha.2.2.2.2.2
    by_cases hi : i = D 0 0 1
    · subst hi
      exact leaf N hN _ hx hg hT hB
    · have hi1 : i < D 0 0 1 := by omega
      have hi7 : i < 7 := by omega
      have g4 : g i = 4 := h4 i (Nat.le_refl i)
      obtain ⟨p1, p2⟩ := pw5_s hi7
      have hu := un5_le i
      have hp := pr_rng hD hg.2
      have hw := wk_rng hD hg.2
      have m30 : mc csF 30 0 = true := mF (by decide) (by decide)
      -- to none
      have last : ∀ T : HS, Mx T D → TrS T D g i → BsM T D (dgD g + un5 i) → ∃ Z, f_X9_tries_166 csF N (f_X9_tries csF N d) (nI i) (nI (prD D g).toNat) (nI (wkD D g).toNat) T = some ((), Z) ∧ BsM Z D (dgD g) ∧ TrS Z D g i := by
        intro T hxT hTT hBT
        have mu : Md [(31, some 22, none)] T (ui T 31 22 i (-1)) := (Md.rf _ T).ui rfl rfl
        obtain ⟨Z, z1, z2, z3⟩ := ih (i + 1) g (ui T 31 22 i (-1)) (by omega) (by omega) hg (fun j hj => h4 j (by omega)) (hxT.sub mu (by decide)) ⟨fun f hf => by rw [mu.gi _ _ _ rfl]; exact hTT.1 f hf, fun j hj => by
          by_cases e : j = i
          · subst e; rw [gi_ui_s, g4]; rfl
          · rw [gi_ui_j _ _ _ _ _ _ e]; exact hTT.2.1 j (by omega), fun f hf t ht => (hTT.2.2 f hf t ht).eq (mu.gi _ _ _ rfl)⟩ (hBT.same (mu.gi _ _ _ rfl) (mu.gi _ _ _ rfl) (fun _ => mu.gi _ _ _ rfl) (by rw [p1]; exact Int.le_refl _) (fun g' hg' hd => by rw [p1] at hd; exact hd))
        refine ⟨Z, ?_, z2, z3.weak⟩
        rw [f_X9_tries_166, m30, ck_t, mF (by decide) (by decide), ck_t, inb_k hi7 (by decide), ck_t, lt_s_, cl_k (by omega), nI_1, z1, ob_s]
      rw [f_X9_tries_0, m30, ck_t, ha.2.2.2.1, if_neg (by rw [nI_eq (by omega) (by omega)]; exact hi)]
      have hopen : ∀ T : HS, Mx T D → f_X9_isOpen csF N (nI i) T = some (bif_ (D 8 i 0 = 1) 1 0, T) := fun T hxT => by
        have hc := hxT.c
        have e := X9_isOpen_eq N i T hi7 hc (by rw [hxT.a.2.2.2.1, nI_toInt (by omega)]; omega)
        rw [e]
        have o := (hxT.o hi1).2.2.2.2
        by_cases q : D 8 i 0 = 1
        · rw [bif_t _ _ q, bif_t _ _ (o.mpr q)]
        · rw [bif_f _ _ q, bif_f _ _ (fun x => q (o.mp x))]
      by_cases ho : D 8 i 0 = 1
      · have loop : ∀ (m n f : Nat) (T : HS), f + m = 4 → m < n → Mx T D → TrS T D g i → BsM T D (dgD g + (5 - (f : Int)) * (un5 i : Int)) → ∃ Z, f_X9_tries_86 csF N (f_X9_tries csF N d) n (nI i) (nI (prD D g).toNat) (nI (wkD D g).toNat) (nI f) T = some ((), Z) ∧ BsM Z D (dgD g) ∧ TrS Z D g i := by
          intro m
          induction m with
          | zero =>
            intro n f T a1 a2 hxT hTT hBT
            obtain ⟨n, rfl⟩ : ∃ k, n = k + 1 := ⟨n - 1, by omega⟩
            have e : f = 4 := by omega
            subst e
            rw [f_X9_tries_86, if_pos (by decide)]
            refine last T hxT hTT ?_
            have : dgD g + (5 - ((4 : Nat) : Int)) * (un5 i : Int) = dgD g + un5 i := by simp
            rw [this] at hBT
            exact hBT
          | succ m ihm =>
            intro n f T a1 a2 hxT hTT hBT
            obtain ⟨n, rfl⟩ : ∃ k, n = k + 1 := ⟨n - 1, by omega⟩
            have hf : f < 4 := by omega
            obtain ⟨u1, u2, u3⟩ := msk_up hi7 hf g4
            obtain ⟨o1, o2, o3, -⟩ := or_bt _ (msk_lt g f) i hi7 u2
            have mu : Md [(31, some 24, none), (31, some 22, none)] T (ui (ui T 31 24 f (nI (msk g f + 2 ^ i))) 31 22 i (nI f)) := ((Md.rf _ T).ui rfl rfl).ui rfl rfl
            have hx1 := hxT.sub mu (by decide)
            have hg1 : cand D (gup g i f) := ⟨up_le hg.1 hf, fun j hj => by
              by_cases e : j = i
              · rw [e]; exact ⟨hi1, ho⟩
              · unfold gup at hj
                rw [if_neg e] at hj
                exact hg.2 j hj⟩
            have hll := hx1.l hf hi1 N
            have hoo := (hx1.o hi1).2.1
            have ep : nI (prD D g).toNat + nI (D 6 i 0) = nI (prD D (gup g i f)).toNat := by
              rw [nI_add, pr_up D hi7 hf g4]
              congr 1
              omega
            have ew : nI (wkD D g).toNat + nI (D 3 f i) = nI (wkD D (gup g i f)).toNat := by
              rw [nI_add, wk_up D hi7 hf g4]
              congr 1
              omega
            have ed : dgD (gup g i f) + pw5 (i + 1) = dgD g + (5 - (f : Int)) * (un5 i : Int) := by
              rw [dg_up hi7 hf g4, p1]
              have : (5 - (f : Int)) * (un5 i : Int) = (4 - (f : Int)) * (un5 i : Int) + un5 i := by
                rw [show (5 - (f : Int)) = (4 - (f : Int)) + 1 by omega, Int.add_mul, Int.one_mul]
              omega
            obtain ⟨Z1, z1, z2, z3⟩ := ih (i + 1) (gup g i f) (ui (ui T 31 24 f (nI (msk g f + 2 ^ i))) 31 22 i (nI f)) (by omega) (by omega) hg1 (fun j hj => by unfold gup; rw [if_neg (by omega)]; exact h4 j (by omega)) hx1 ⟨fun f' hf' => by
                rw [gi_ui_k _ _ _ _ _ _ (by decide)]
                by_cases e : f' = f
                · subst e; rw [gi_ui_s, u1]
                · rw [gi_ui_j _ _ _ _ _ _ e, u3 f' hf' e]; exact hTT.1 f' hf', fun j hj => by
                by_cases e : j = i
                · subst e
                  rw [gi_ui_s]
                  unfold gvI gup
                  rw [if_pos rfl, if_pos hf]
                · rw [gi_ui_j _ _ _ _ _ _ e, gi_ui_k _ _ _ _ _ _ (by decide), hTT.2.1 j (by omega)]
                  unfold gup
                  rw [if_neg e], fun f' hf' t ht => (hTT.2.2 f' hf' t ht).eq (mu.gi _ _ _ rfl)⟩ (hBT.same (mu.gi _ _ _ rfl) (mu.gi _ _ _ rfl) (fun _ => mu.gi _ _ _ rfl) (by rw [ed]; exact Int.le_refl _) (fun g' hg' hd => by rw [ed] at hd; exact hd))
            have mz : Md ml_X9_tries (ui (ui T 31 24 f (nI (msk g f + 2 ^ i))) 31 22 i (nI f)) Z1 := md_X9_tries _ _ _ _ _ _ _ _ _ z1
            have mv : Md [(31, some 24, none)] Z1 (ui Z1 31 24 f (nI (msk g f))) := (Md.rf _ Z1).ui rfl rfl
            obtain ⟨Z, y1, y2, y3⟩ := ihm n (f + 1) (ui Z1 31 24 f (nI (msk g f))) (by omega) (by omega) ((hx1.sub mz (by decide)).sub mv (by decide)) ⟨fun f' hf' => by
                by_cases e : f' = f
                · subst e; rw [gi_ui_s]
                · rw [gi_ui_j _ _ _ _ _ _ e, z3.1 f' hf', u3 f' hf' e], fun j hj => by
                rw [mv.gi _ _ _ rfl, z3.2.1 j (by omega)]
                unfold gup
                rw [if_neg (by omega)], fun f' hf' t ht => (z3.2.2 f' hf' t ht).eq (mv.gi _ _ _ rfl)⟩ (by
                have e5 : dgD g + (5 - ((f + 1 : Nat) : Int)) * (un5 i : Int) = dgD (gup g i f) := by
                  rw [dg_up hi7 hf g4, Int.natCast_add]
                  congr 2
                  omega
                rw [e5]
                exact z2.same (mv.gi _ _ _ rfl) (mv.gi _ _ _ rfl) (fun _ => mv.gi _ _ _ rfl) (Int.le_refl _) (fun _ _ h => h))
            refine ⟨Z, ?_, y2, y3⟩
            rw [f_X9_tries_86, if_neg (by rw [show (4 : Int32) = nI 4 from rfl, nI_leI (by omega) (by omega)]; omega), m30, ck_t, hopen T hxT, ob_s, if_bif, bif_t _ _ ho, mF (by decide) (by decide), ck_t, inb_k hf (by decide), ck_t, ck_t, lt_s_, mF (by decide) (by decide), ck_t, inb_k hi7 (by decide), ck_t, lt_s_, mF (by decide) (by decide), ck_t, ck_t, cl_k (show f < 2147483648 by omega), cl_k (show i < 2147483648 by omega), hTT.1 f hf, sh_p i (by omega), o1, hll.2.1, ob_s, hoo.2.1, ep, ew, nI_1, z1, ob_s, ck_t, ck_t, lt_s_, lt_s_, z3.1 f hf, u1, o2, nI_1]
            exact y1
        have := loop 4 N 0 S (by omega) (by omega) hx hT (by
          have e : dgD g + (5 - ((0 : Nat) : Int)) * (un5 i : Int) = dgD g + pw5 i := by rw [p2]; simp
          rw [e]
          exact hB)
        exact this
      · obtain ⟨n, hn⟩ : ∃ k, N = k + 1 := ⟨N - 1, by omega⟩
        have e86 : f_X9_tries_86 csF N (f_X9_tries csF N d) N (nI i) (nI (prD D g).toNat) (nI (wkD D g).toNat) 0 S = f_X9_tries_166 csF N (f_X9_tries csF N d) (nI i) (nI (prD D g).toNat) (nI (wkD D g).toNat) S := by
          conv => lhs; rw [show f_X9_tries_86 csF N (f_X9_tries csF N d) N = f_X9_tries_86 csF N (f_X9_tries csF N d) (n + 1) by rw [← hn]]
          rw [f_X9_tries_86, if_neg (by decide), m30, ck_t, hopen S hx, ob_s, if_bif, bif_f _ _ ho]
        rw [e86]
        refine last S hx hT (hB.same rfl rfl (fun _ => rfl) (by rw [p2]; omega) (fun g' hg' hd => ?_))
        apply Classical.byContradiction
        intro hc
        have pre := dg_pre hg.1 hg'.1 (by omega) h4 (by omega) (by omega)
        have g'4 : g' i = 4 := by
          have := hg'.1 i
          apply Classical.byContradiction
          intro hq
          exact ho (hg'.2.1 i (by omega)).2
        have hi' := dg_hi hg.1 hg'.1 (i := i + 1) (by omega) (fun j hj => h4 j (by omega)) (fun j hj => by
          by_cases e : j = i
          · rw [e, g'4, g4]
          · exact pre j (by omega))
        rw [p1] at hi'
        omega
/-- what the other object finds is BEST -/
theorem X9_finds_eq (N : Nat) (hN : 200 ≤ N) {S : HS} {D : Pb} (hx : Mx S D) : ∃ Z h, f_X9_finds csF N S = some ((), Z) ∧ isBest D h ∧ gi Z 30 0 42 = nI (prD D h).toNat ∧ gi Z 30 0 43 = nI (wkD D h).toNat ∧ (∀ j, j < D 0 0 1 → gi Z 31 23 j = gvI (h j)) ∧ Md ml_X9_finds S Z := by
  obtain ⟨Z1, z1, z2, z3⟩ := fi2 N hN 4 N 0 S (by omega) (by omega) hx (fun f' hf' => by omega)
  have mu : Md [(30, some 0, some 42)] Z1 (ui Z1 30 0 42 (-1)) := (Md.rf _ Z1).ui rfl rfl
  have c4 : cand D (fun _ => 4) := ⟨fun _ => Nat.le_refl _, fun i hi => absurd hi (by simp)⟩
  have p0 : (prD D (fun _ => 4)).toNat = 0 := rfl
  have w0 : (wkD D (fun _ => 4)).toNat = 0 := rfl
  have d0 : dgD (fun _ => 4) = 0 := rfl
  have ha := hx.a
  obtain ⟨Z, y1, y2, y3⟩ := tries_eq N (by omega) 9 0 (fun _ => 4) (ui Z1 30 0 42 (-1)) (by omega) (by omega) c4 (fun _ _ => rfl) (z2.sub mu (by decide)) ⟨fun f hf => by
      rw [mu.gi _ _ _ rfl, (z3 f hf).1]
      have : msk (fun _ => 4) f = 0 := by
        unfold msk mskB
        have : ¬ 4 = f := by omega
        simp [this]
      rw [this]
      rfl, fun j hj => by omega, fun f hf t ht => ((z3 f hf).2 t ht).eq (mu.gi _ _ _ rfl)⟩ (Or.inl ⟨gi_ui_s _ _ _ _ _, fun g hg => by
      have := dg_rng hg.1
      rw [d0]
      show dgD g < 0 + 78125
      omega⟩)
  rw [p0, w0, show nI 0 = 0 from rfl] at y1
  have e : f_X9_finds csF N S = some ((), Z) := by
    rw [f_X9_finds]
    rw [show nI 0 = 0 from rfl] at z1
    rw [z1, y1, ob_s]
  rw [d0] at y2
  have way4 : wayOk D (fun _ => 4) := ⟨c4.1, c4.2, fun f hf l r1 r2 => by
    have : l = [] := by
      cases l with
      | nil => rfl
      | cons a l =>
        have q : 4 = f := (r2 a).mp List.mem_cons_self
        omega
    rw [this]
    exact ⟨by simp [silD], rfl⟩⟩
  rcases y2 with ⟨a, b⟩ | ⟨h, a1, a2, a3, a4, a5, a6⟩
  · have := b _ way4
    rw [d0] at this
    omega
  · exact ⟨Z, h, e, ⟨a1, fun g hg => a6 g hg (dg_rng hg.1).1⟩, a3, a4, a5, md_X9_finds _ _ _ _ _ e⟩
