theorem own_rg (ls : List (Nat × List Nat)) (h : ∀ l, l ∈ ls → lnOk l.1 l.2) : ∀ (r : R3), (∀ p, rg (r.1 p) (-1) 3) → ∀ p, rg ((ls.foldl (fun r l => apC3 l.1 l.2 r) r).1 p) (-1) 3 := by
  induction ls with
  | nil => intro r hr p; exact hr p
  | cons l ls ih =>
    intro r hr p
    refine ih (fun x hx => h x (List.mem_cons_of_mem _ hx)) _ (fun p => ?_) p
    have hl := h l List.mem_cons_self
    show rg ((apC3 l.1 l.2 r).1 p) (-1) 3
    unfold apC3
    rcases hl with ⟨e, h0, h1, h2⟩ | ⟨e, h0, h1, h2, h3⟩ | ⟨e, h0, h1, h2, h3⟩ | ⟨e, h0, h1⟩ <;> rw [e]
    · simp only [if_true]
      by_cases q : p = l.2.getD 0 0
      · rw [if_pos q]; exact nI_rg (by omega) (by omega) (by omega)
      · rw [if_neg q]; exact hr p
    · simp only [if_neg (show ¬ (6 : Nat) = 4 by decide), if_true]; exact hr p
    · simp only [if_neg (show ¬ (9 : Nat) = 4 by decide), if_neg (show ¬ (9 : Nat) = 6 by decide), if_true]; exact hr p
    · simp only [if_neg (show ¬ (11 : Nat) = 4 by decide), if_neg (show ¬ (11 : Nat) = 6 by decide), if_neg (show ¬ (11 : Nat) = 9 by decide)]
      by_cases q : p = l.2.getD 0 0
      · rw [if_pos q]; exact ⟨by decide, by decide⟩
      · rw [if_neg q]; exact hr p
theorem dC_oth {M : List (Nat × Option Nat × Option Nat)} {k : Nat} {S Z : HS} (h : Md M S Z) (o : Oth k S Z) (hk : rkC S ≠ k) (a1 : pm M 0 0 5 = false) (a2 : pm M 0 0 8 = false) (a3 : pm M 0 0 9 = false) (a4 : ∀ k, pm M 4 k 2 = false) (a5 : ∀ k j, pm M 5 k j = false) (a7 : ∀ k j, pm M 7 k j = false) : dC Z = dC S := by
  have e1 := h.gi _ _ _ a1
  have e2 := h.gi _ _ _ a2
  have e3 := h.gi _ _ _ a3
  have e4 : ∀ k, gi Z 4 k 2 = gi S 4 k 2 := fun k => h.gi _ _ _ (a4 k)
  have e5 : ∀ k j, gi Z 5 k j = gi S 5 k j := fun k j => h.gi _ _ _ (a5 k j)
  have e7 : ∀ k j, gi Z 7 k j = gi S 7 k j := fun k j => h.gi _ _ _ (a7 k j)
  have er : rkC Z = rkC S := by unfold rkC; rw [e1]
  have f1 : ∀ j, gi Z 21 (rkC S) j = gi S 21 (rkC S) j := fun j => o.1 _ _ hk
  have f2 : ∀ p j, gi Z 23 (6 * rkC S + p % 6) j = gi S 23 (6 * rkC S + p % 6) j := fun p j => o.2.1 _ _ (by have := Nat.mod_lt p (show 0 < 6 by decide); omega)
  have f3 : ∀ j, gl Z 24 (rkC S) j = gl S 24 (rkC S) j := fun j => o.2.2 _ _ hk
  funext c a b
  unfold dC okC
  simp only [er, e2, e3, e4, e5, e7, f1, f2, f3]
theorem PlanOk_d {S Z : HS} (hd : dC Z = dC S) (c1 : ∀ k j, gi Z 12 k j = gi S 12 k j) (c2 : ∀ k j, gi Z 13 k j = gi S 13 k j) (q : PlanOk S) : PlanOk Z := by
  unfold PlanOk at q ⊢
  rw [hd]
  obtain ⟨g, q1, q2, q3, q4⟩ := q
  refine ⟨g, q1, by rw [c1]; exact q2, by rw [c1]; exact q3, fun i hi => ?_⟩
  rw [c2 0 i, c2 1 i, c2 2 i]
  exact q4 i hi
theorem op_custom (N : Nat) (hN : 501 ≤ N) : OpOk (f_X8_custom csF N) (f_X9_custom csF N) := by
  intro S hI
  obtain ⟨hA, hF, hH, hP, hO, hR, hT, hE, hB⟩ := id hI
  obtain ⟨t1, t2, t3⟩ := hT
  obtain ⟨hR1, hR2⟩ := id hR
  obtain ⟨eL, hL⟩ := nat_rg t2
  generalize hLd : nat (gi S 30 0 24) = L at eL hL
  have hL5 : L ≤ 500 := by omega
  have ht : ∀ j, (fun j => if j < L then nat (gi S 31 18 j) else 0) j < 256 := fun j => by
    show (if j < L then nat (gi S 31 18 j) else 0) < 256
    by_cases q : j < L
    · rw [if_pos q]
      have := (nat_rg (t3 j (by rw [eL, nI_toInt (by omega)]; omega)).1).2
      omega
    · rw [if_neg q]; omega
  have hTC : TpC S L (fun j => if j < L then nat (gi S 31 18 j) else 0) := ⟨t1.trans eL, fun j hj => by
    obtain ⟨q1, q2⟩ := t3 j (by rw [eL, nI_toInt (by omega)]; omega)
    simp only [if_pos hj]
    rw [q2]
    unfold sb
    rw [← (nat_rg q1).1]⟩
  have hTM : TpM S L (fun j => if j < L then nat (gi S 31 18 j) else 0) := ⟨eL, fun j hj => by
    obtain ⟨q1, q2⟩ := t3 j (by rw [eL, nI_toInt (by omega)]; omega)
    simp only [if_pos hj]
    exact (nat_rg q1).1⟩
  generalize (fun j => if j < L then nat (gi S 31 18 j) else 0) = t at ht hTC hTM
  -- the two numbers of rights
  obtain ⟨k, k', hk, hk', hkk, g5, g6, hrk⟩ : ∃ k k' : Nat, k < 2 ∧ k' < 2 ∧ k ≠ k' ∧ gi S 0 0 5 = nI k ∧ gi S 0 0 6 = nI k' ∧ rkC S = k := by
    rcases hR1 with ⟨x, y⟩ | ⟨x, y⟩
    · exact ⟨0, 1, by decide, by decide, by decide, x, y, by unfold rkC; rw [x]; rfl⟩
    · exact ⟨1, 0, by decide, by decide, by decide, x, y, by unfold rkC; rw [x]; rfl⟩
  obtain ⟨a, Z1, z1, z2, z3, z4⟩ := X1_into_eq N hN hL5 ht hk' S hTC
  have m0 : mc csF 0 0 = true := mF (by decide) (by decide)
  have m8 : mc csF 8 0 = true := mF (by decide) (by decide)
  have m9 : mc csF 9 0 = true := mF (by decide) (by decide)
  have mu : Md [(9, some 0, some 0)] Z1 (ui Z1 9 0 0 0) := (Md.rf _ Z1).ui rfl rfl
  have q5 : gi (ui Z1 9 0 0 0) 0 0 5 = nI k := by rw [mu.gi _ _ _ rfl, z3.gi _ _ _ rfl]; exact g5
  have q6 : gi (ui Z1 9 0 0 0) 0 0 6 = nI k' := by rw [mu.gi _ _ _ rfl, z3.gi _ _ _ rfl]; exact g6
  have o1 : Oth k' S (ui Z1 9 0 0 0) := z2.trans (Oth.md mu (fun _ _ => rfl) (fun _ _ => rfl) (fun _ _ => rfl))
  cases hp : prS t L 25 [] (tokS t L 0) with
  | inl f =>
    rw [hp] at z4
    obtain ⟨rfl, z5, z6⟩ := z4
    have eC : f_X8_custom csF N S = some (-1, ui Z1 9 0 0 0) := by
      rw [f_X8_custom, m0, ck_t, m8, ck_t, g6, cl_k (by omega), z1, ob_s, m9, ck_t, lt_s_, if_pos rfl]
    have mC : Md (ml_X1_readInto ++ [(9, some 0, some 0)]) S (ui Z1 9 0 0 0) := z3.app mu
    have hTM1 : TpM (ui Z1 9 0 0 0) L t := hTM.md mC rfl (fun _ => rfl)
    have hM := X9_custom_eq N hN hL5 ht _ hTM1
    rw [hp] at hM
    obtain ⟨Z, y1, y2, y3, y4, y5⟩ := hM
    have hm := mC.app y2
    have o2 : Oth k' S Z := o1.trans (Oth.md y2 (fun _ _ => rfl) (fun _ _ => rfl) (fun _ _ => rfl))
    refine ⟨-1, _, Z, eC, y1, IvA_md hm rfl rfl rfl rfl rfl rfl hA, IvF_md hm (fun _ => rfl) (fun _ => rfl) (fun _ => rfl) (fun _ => rfl) (fun _ => rfl) hF, IvH_md hm (fun _ _ => rfl) (fun _ => rfl) hH, IvP_md hm (fun _ _ => rfl) (fun _ => rfl) (fun _ => rfl) (fun _ => rfl) hP, IvO_md hm rfl (fun _ _ => rfl) (pm_r (by decide)) hO, ?_, ?_, ?_, ?_⟩
    · unfold IvR
      have er : rkC Z = k := by unfold rkC; rw [hm.gi _ _ _ rfl]; exact hrk
      rw [er, hm.gi 0 0 5 rfl, hm.gi 0 0 6 rfl]
      refine ⟨hR1, fun p hp => ?_⟩
      rw [hrk] at hR2
      obtain ⟨x1, x2, x3, x4⟩ := hR2 p hp
      rw [o2.1 k p hkk, hm.gi 31 16 p rfl, o2.2.2 k p hkk]
      exact ⟨x1, x2, fun hh f hf => by rw [o2.2.1 _ _ (by omega), hm.gi 31 17 _ rfl]; exact x3 hh f hf, fun w hw => by rw [hm.gi 32 0 _ rfl]; exact x4 w hw⟩
    · unfold IvT
      rw [y2.gi 9 0 0 rfl, gi_ui_s, y3]
      exact ⟨rfl, ⟨by decide, by decide⟩, fun j hj => by simp at hj; omega⟩
    · unfold IvE
      rw [y2.gi 8 0 2 rfl, y2.gi 8 0 3 rfl, mu.gi 8 0 2 rfl, mu.gi 8 0 3 rfl, z5, z6, y4, y5]
      exact ⟨rfl, rfl⟩
    · unfold IvB at hB ⊢
      rw [hm.gi 0 0 7 rfl]
      exact hB.imp id (fun x => ⟨x.1, PlanOk_d (dC_oth hm o2 (by omega) rfl rfl rfl (fun _ => rfl) (fun _ _ => rfl) (fun _ _ => rfl)) (fun _ _ => hm.gi _ _ _ rfl) (fun _ _ => hm.gi _ _ _ rfl) x.2⟩)
  | inr ls =>
    rw [hp] at z4
    obtain ⟨rfl, z5, z6, z7, z8⟩ := z4
    obtain ⟨l1, l2⟩ := prS_ok 25 [] (tokS t L 0) ls (by simp) (fun l hl => by simp at hl) hp
    have mv : Md [(0, some 0, some 5), (0, some 0, some 6), (0, some 0, some 7)] (ui Z1 9 0 0 0) (ui (ui (ui (ui Z1 9 0 0 0) 0 0 5 (nI k')) 0 0 6 (nI k)) 0 0 7 0) := (((Md.rf _ _).ui rfl rfl).ui rfl rfl).ui rfl rfl
    have eC : f_X8_custom csF N S = some (nI ls.length, ui (ui (ui (ui Z1 9 0 0 0) 0 0 5 (nI k')) 0 0 6 (nI k)) 0 0 7 0) := by
      rw [f_X8_custom, m0, ck_t, m8, ck_t, g6, cl_k (by omega), z1, ob_s, m9, ck_t, lt_s_, if_neg (by decide), q5, q6, cl_k (show k' < 2147483648 by omega), cl_k (show k' < 2147483648 by omega), cl_k (show k < 2147483648 by omega), cl_k (show k < 2147483648 by omega), decide_eq_true rfl, ck_t, lt_s_, decide_eq_true rfl, ck_t, lt_s_, lt_s_, mv.gi 8 0 1 rfl, mu.gi 8 0 1 rfl, z6]
    generalize hS1 : ui (ui (ui (ui Z1 9 0 0 0) 0 0 5 (nI k')) 0 0 6 (nI k)) 0 0 7 0 = S1 at mv eC
    have s5 : gi S1 0 0 5 = nI k' := by rw [← hS1]; simp [gi_ui]
    have s6 : gi S1 0 0 6 = nI k := by rw [← hS1]; simp [gi_ui]
    have s7 : gi S1 0 0 7 = 0 := by rw [← hS1]; simp [gi_ui]
    have mC : Md ml_X8_custom S S1 := md_X8_custom _ _ _ _ _ eC
    have mC2 := mu.app mv
    have hTM1 : TpM S1 L t := hTM.md mC rfl (fun _ => rfl)
    have hM := X9_custom_eq N hN hL5 ht _ hTM1
    rw [hp] at hM
    obtain ⟨Z, y1, y2, y3, y4, y5⟩ := hM
    have mM : Md ml_X9_custom S1 Z := md_X9_custom _ _ _ _ _ y1
    have hm := mC.app mM
    have hRC : RtC Z k' (foR ls) := (z5.md mC2 (fun _ _ => rfl) (fun _ _ => rfl) (fun _ _ => rfl)).md mM (fun _ _ => rfl) (fun _ _ => rfl) (fun _ _ => rfl)
    refine ⟨nI ls.length, S1, Z, eC, y1, IvA_md hm rfl rfl rfl rfl rfl rfl hA, IvF_md hm (fun _ => rfl) (fun _ => rfl) (fun _ => rfl) (fun _ => rfl) (fun _ => rfl) hF, IvH_md hm (fun _ _ => rfl) (fun _ => rfl) hH, IvP_md hm (fun _ _ => rfl) (fun _ => rfl) (fun _ => rfl) (fun _ => rfl) hP, IvO_md hm rfl (fun _ _ => rfl) (pm_r (by decide)) hO, ?_, ?_, ?_, Or.inl ?_⟩
    · unfold IvR
      have er : rkC Z = k' := by unfold rkC; rw [mM.gi _ _ _ rfl, s5]; exact nat_nI (by omega)
      rw [er, mM.gi 0 0 5 rfl, mM.gi 0 0 6 rfl, s5, s6]
      refine ⟨?_, fun p hp => ?_⟩
      · rcases (show k = 0 ∧ k' = 1 ∨ k = 1 ∧ k' = 0 by omega) with ⟨rfl, rfl⟩ | ⟨rfl, rfl⟩
        · exact Or.inr ⟨rfl, rfl⟩
        · exact Or.inl ⟨rfl, rfl⟩
      · obtain ⟨x1, x2, x3⟩ := hRC p hp
        obtain ⟨v1, v2, v3⟩ := y2 p hp
        refine ⟨x1.trans v1.symm, by rw [v1]; exact own_rg ls l2 r30 (fun _ => show rg (-1) (-1) 3 from ⟨by decide, by decide⟩) p, fun hh f hf => by rw [x2 f hf, v2 (by rw [← v1]; exact hh) f hf], fun w hw => by rw [v3 w hw, x3 w hw]⟩
    · unfold IvT
      rw [mM.gi 9 0 0 rfl, mv.gi 9 0 0 rfl, gi_ui_s, y3]
      exact ⟨rfl, ⟨by decide, by decide⟩, fun j hj => by simp at hj; omega⟩
    · unfold IvE
      rw [mM.gi 8 0 2 rfl, mM.gi 8 0 3 rfl, mC2.gi 8 0 2 rfl, mC2.gi 8 0 3 rfl, z7, z8, y4, y5]
      exact ⟨rfl, rfl⟩
    · rw [mM.gi 0 0 7 rfl]; exact s7
