/-! pattern -/
def hitC (S : HS) (p k : Nat) : Prop := gi S 7 k 8 = 0 ∧ gi S 7 k 1 = nI p
def newC (S Z : HS) (k b : Nat) (t n : Int32) : Prop := gi Z 7 k 5 = nI (mk (nat (gi S 7 k 2)) b) ∧ gi Z 7 k 6 = nI (mk (nat (gi S 7 k 2)) b) * t ∧ gi Z 7 k 7 = nI (mk (nat (gi S 7 k 2)) b) * n ∧ gi Z 7 k 9 = 0 ∧ gi Z 7 k 10 = -1
def oldC (S Z : HS) (k : Nat) : Prop := gi Z 7 k 5 = gi S 7 k 5 ∧ gi Z 7 k 6 = gi S 7 k 6 ∧ gi Z 7 k 7 = gi S 7 k 7 ∧ gi Z 7 k 9 = gi S 7 k 9 ∧ gi Z 7 k 10 = gi S 7 k 10
abbrev mlpC : List (Nat × Option Nat × Option Nat) := [(0, some 0, some 7), (7, none, some 5), (7, none, some 6), (7, none, some 7), (7, none, some 9), (7, none, some 10)]
theorem X8_pat_loop (N : Nat) (hN : 201 ≤ N) {c p b : Nat} {t nn : Int32} (hc : c ≤ 7) (hp : p < 6) (hb : b ≤ 90) : ∀ (m n i : Nat) (S : HS), i + m = c → m < n → gi S 0 0 9 = nI c → gi S 6 p 0 = t → gi S 6 p 1 = nn → gi S 6 p 2 = nI b → (∀ k, k < c → rg (gi S 7 k 2) 1 20) →
    ∃ Z, f_X8_pattern_74 csF N n (nI p) (nI i) S = some (1, Z) ∧ Md mlpC S Z ∧ gi Z 0 0 7 = 0 ∧ ∀ k, (i ≤ k → k < c → hitC S p k → newC S Z k b t nn) ∧ ((i ≤ k → k < c → ¬ hitC S p k) → oldC S Z k) := by
  intro m
  induction m with
  | zero =>
    intro n i S h1 h2 h9 ht hn h6 hg
    obtain ⟨n, rfl⟩ : ∃ k, n = k + 1 := ⟨n - 1, by omega⟩
    have hle : nI c ≤ nI i := by rw [nI_leI (by omega) (by omega)]; omega
    refine ⟨ui S 0 0 7 0, by simp [f_X8_pattern_74, mcF, cnt, ck_t, lt_s_, h9, hle], (Md.rf _ S).ui rfl rfl, by simp [gi_ui], fun k => ⟨fun a b => by omega, fun _ => by simp [oldC, gi_ui]⟩⟩
  | succ m ih =>
    intro n i S h1 h2 h9 ht hn h6 hg
    obtain ⟨n, rfl⟩ : ∃ k, n = k + 1 := ⟨n - 1, by omega⟩
    have hle : ¬ nI c ≤ nI i := by rw [nI_leI (by omega) (by omega)]; omega
    have ci : (nI i).toNatClampNeg = i := cl_k (by omega)
    have ii : inb (nI i) 7 = true := inb_k (by omega) (by decide)
    have cp : (nI p).toNatClampNeg = p := cl_k (by omega)
    have ip : inb (nI p) 6 = true := inb_k hp (by decide)
    have hi7 : i < 7 := by omega
    by_cases q : hitC S p i
    · obtain ⟨q1, q2⟩ := q
      obtain ⟨eg, hg2⟩ := nat_rg (hi := 20) ⟨by have := (hg i (by omega)).1; omega, (hg i (by omega)).2⟩
      have hg1 : 1 ≤ nat (gi S 7 i 2) := by have := (hg i (by omega)).1; unfold nat; omega
      have rk := X6_reckon_eq N hN S (i := i) (p := p) (g := nat (gi S 7 i 2)) (b := b) hi7 hp hg1 (by omega) hb eg h6
      rw [ht, hn] at rk
      have hS1 : Md mlpC S (rkA S i (nI (mk (nat (gi S 7 i 2)) b)) t nn) := (((((Md.rf _ S).ui rfl rfl).ui rfl rfl).ui rfl rfl).ui rfl rfl).ui rfl rfl
      generalize hS1e : rkA S i (nI (mk (nat (gi S 7 i 2)) b)) t nn = S1 at rk hS1
      obtain ⟨Z, z1, z2, z3, z4⟩ := ih n (i + 1) S1 (by omega) (by omega) (by rw [hS1.gi _ _ _ rfl]; exact h9) (by rw [hS1.gi _ _ _ rfl]; exact ht) (by rw [hS1.gi _ _ _ rfl]; exact hn) (by rw [hS1.gi _ _ _ rfl]; exact h6) (fun k hk => by rw [hS1.gi _ _ _ rfl]; exact hg k hk)
      refine ⟨Z, ?_, hS1.trans z2, z3, fun k => ?_⟩
      · simp [f_X8_pattern_74, mcF, cnt, ck_t, lt_s_, ob_s, h9, hle, ci, ii, cp, ip, hi7, q1, q2, rk, nI_1, z1]
      · obtain ⟨k1, k2⟩ := z4 k
        by_cases hki : k = i
        · subst hki
          have o := k2 (fun a => by omega)
          unfold oldC at o
          rw [← hS1e] at o
          simp [rkA, gi_ui] at o
          exact ⟨fun _ _ _ => o, fun x => absurd ⟨q1, q2⟩ (x (Nat.le_refl k) (by omega))⟩
        · have hh : hitC S1 p k ↔ hitC S p k := by unfold hitC; rw [hS1.gi _ _ _ rfl, hS1.gi _ _ _ rfl]
          have s5 : gi S1 7 k 5 = gi S 7 k 5 := by rw [← hS1e]; simp [rkA, gi_ui, hki]
          have s6 : gi S1 7 k 6 = gi S 7 k 6 := by rw [← hS1e]; simp [rkA, gi_ui, hki]
          have s7 : gi S1 7 k 7 = gi S 7 k 7 := by rw [← hS1e]; simp [rkA, gi_ui, hki]
          have s9 : gi S1 7 k 9 = gi S 7 k 9 := by rw [← hS1e]; simp [rkA, gi_ui, hki]
          have s10 : gi S1 7 k 10 = gi S 7 k 10 := by rw [← hS1e]; simp [rkA, gi_ui, hki]
          have s2 : gi S1 7 k 2 = gi S 7 k 2 := hS1.gi _ _ _ rfl
          refine ⟨fun a b x => ?_, fun x => ?_⟩
          · have := k1 (by omega) b (hh.mpr x)
            unfold newC at this ⊢
            rw [s2] at this
            exact this
          · have := k2 (fun a b y => x (by omega) b (hh.mp y))
            unfold oldC at this ⊢
            rw [s5, s6, s7, s9, s10] at this
            exact this
    · obtain ⟨Z, z1, z2, z3, z4⟩ := ih n (i + 1) S (by omega) (by omega) h9 ht hn h6 hg
      refine ⟨Z, ?_, z2, z3, fun k => ?_⟩
      · by_cases q1 : gi S 7 i 8 = 0
        · have q2 : ¬ gi S 7 i 1 = nI p := fun x => q ⟨q1, x⟩
          simp [f_X8_pattern_74, mcF, cnt, ck_t, lt_s_, ob_s, h9, hle, ci, ii, hi7, q1, q2, nI_1, z1]
        · simp [f_X8_pattern_74, mcF, cnt, ck_t, lt_s_, ob_s, h9, hle, ci, ii, hi7, q1, nI_1, z1]
      · obtain ⟨k1, k2⟩ := z4 k
        refine ⟨fun a b x => ?_, fun x => ?_⟩
        · by_cases hki : k = i
          · subst hki; exact absurd x q
          · exact k1 (by omega) b x
        · exact k2 (fun a b => x (by omega) b)
def hitM (S : HS) (p k : Nat) : Prop := gi S 31 13 k = 0 ∧ gi S 31 6 k = nI p
def newM (S Z : HS) (k b : Nat) (t n : Int32) : Prop := gi Z 31 10 k = nI (mk (nat (gi S 31 7 k)) b) ∧ gi Z 31 11 k = nI (mk (nat (gi S 31 7 k)) b) * t ∧ gi Z 31 12 k = nI (mk (nat (gi S 31 7 k)) b) * n ∧ gi Z 31 14 k = 0 ∧ gi Z 31 15 k = -1
def oldM (S Z : HS) (k : Nat) : Prop := gi Z 31 10 k = gi S 31 10 k ∧ gi Z 31 11 k = gi S 31 11 k ∧ gi Z 31 12 k = gi S 31 12 k ∧ gi Z 31 14 k = gi S 31 14 k ∧ gi Z 31 15 k = gi S 31 15 k
abbrev mlpM : List (Nat × Option Nat × Option Nat) := [(31, some 10, none), (31, some 11, none), (31, some 12, none), (31, some 14, none), (31, some 15, none)]
theorem X9_pat_loop (N : Nat) (hN : 201 ≤ N) {c p b : Nat} {t nn : Int32} (hc : c ≤ 7) (hp : p < 6) (hb : b ≤ 90) : ∀ (m n i : Nat) (S : HS), i + m = c → m < n → gi S 30 0 1 = nI c → gi S 31 3 p = t → gi S 31 4 p = nn → gi S 31 5 p = nI b → (∀ k, k < c → rg (gi S 31 7 k) 1 20) →
    ∃ Z, f_X9_pattern_65 csF N n (nI p) (nI i) S = some (1, Z) ∧ Md mlpM S Z ∧ ∀ k, (i ≤ k → k < c → hitM S p k → newM S Z k b t nn) ∧ ((i ≤ k → k < c → ¬ hitM S p k) → oldM S Z k) := by
  intro m
  induction m with
  | zero =>
    intro n i S h1 h2 h9 ht hn h6 hg
    obtain ⟨n, rfl⟩ : ∃ k, n = k + 1 := ⟨n - 1, by omega⟩
    have hle : nI c ≤ nI i := by rw [nI_leI (by omega) (by omega)]; omega
    refine ⟨S, by simp [f_X9_pattern_65, mcF, cnt, ck_t, lt_s_, h9, hle], Md.rf _ S, fun k => ⟨fun a b => by omega, fun _ => by simp [oldM]⟩⟩
  | succ m ih =>
    intro n i S h1 h2 h9 ht hn h6 hg
    obtain ⟨n, rfl⟩ : ∃ k, n = k + 1 := ⟨n - 1, by omega⟩
    have hle : ¬ nI c ≤ nI i := by rw [nI_leI (by omega) (by omega)]; omega
    have ci : (nI i).toNatClampNeg = i := cl_k (by omega)
    have ii : inb (nI i) 7 = true := inb_k (by omega) (by decide)
    have hi7 : i < 7 := by omega
    have hcr : rg (gi S 30 0 1) 0 7 := by rw [h9]; exact nI_rg (by omega) (by omega) (by omega)
    have ho := X9_isOpen_eq N i S hi7 hcr (by rw [h9, nI_toInt (by omega)]; omega)
    by_cases q : hitM S p i
    · obtain ⟨q1, q2⟩ := q
      obtain ⟨eg, hg2⟩ := nat_rg (hi := 20) ⟨by have := (hg i (by omega)).1; omega, (hg i (by omega)).2⟩
      have rk := X9_counts_eq N hN S (i := i) (p := p) (g := nat (gi S 31 7 i)) (b := b) hi7 hp hb (by omega) q2 eg h6
      rw [ht, hn] at rk
      have hS1 : Md mlpM S (rkB S i (nI (mk (nat (gi S 31 7 i)) b)) t nn) := (((((Md.rf _ S).ui rfl rfl).ui rfl rfl).ui rfl rfl).ui rfl rfl).ui rfl rfl
      generalize hS1e : rkB S i (nI (mk (nat (gi S 31 7 i)) b)) t nn = S1 at rk hS1
      obtain ⟨Z, z1, z2, z4⟩ := ih n (i + 1) S1 (by omega) (by omega) (by rw [hS1.gi _ _ _ rfl]; exact h9) (by rw [hS1.gi _ _ _ rfl]; exact ht) (by rw [hS1.gi _ _ _ rfl]; exact hn) (by rw [hS1.gi _ _ _ rfl]; exact h6) (fun k hk => by rw [hS1.gi _ _ _ rfl]; exact hg k hk)
      refine ⟨Z, ?_, hS1.trans z2, fun k => ?_⟩
      · simp [f_X9_pattern_65, mcF, cnt, ck_t, lt_s_, ob_s, h9, hle, ho, if_bif, bif_t _ _ q1, ci, ii, q2, rk, nI_1, z1]
      · obtain ⟨k1, k2⟩ := z4 k
        by_cases hki : k = i
        · subst hki
          have o := k2 (fun a => by omega)
          unfold oldM at o
          rw [← hS1e] at o
          simp [rkB, gi_ui] at o
          exact ⟨fun _ _ _ => o, fun x => absurd ⟨q1, q2⟩ (x (Nat.le_refl k) (by omega))⟩
        · have hh : hitM S1 p k ↔ hitM S p k := by unfold hitM; rw [hS1.gi _ _ _ rfl, hS1.gi _ _ _ rfl]
          have s5 : gi S1 31 10 k = gi S 31 10 k := by rw [← hS1e]; simp [rkB, gi_ui, hki]
          have s6 : gi S1 31 11 k = gi S 31 11 k := by rw [← hS1e]; simp [rkB, gi_ui, hki]
          have s7 : gi S1 31 12 k = gi S 31 12 k := by rw [← hS1e]; simp [rkB, gi_ui, hki]
          have s9 : gi S1 31 14 k = gi S 31 14 k := by rw [← hS1e]; simp [rkB, gi_ui, hki]
          have s10 : gi S1 31 15 k = gi S 31 15 k := by rw [← hS1e]; simp [rkB, gi_ui, hki]
          have s2 : gi S1 31 7 k = gi S 31 7 k := hS1.gi _ _ _ rfl
          refine ⟨fun a b x => ?_, fun x => ?_⟩
          · have := k1 (by omega) b (hh.mpr x)
            unfold newM at this ⊢
            rw [s2] at this
            exact this
          · have := k2 (fun a b y => x (by omega) b (hh.mp y))
            unfold oldM at this ⊢
            rw [s5, s6, s7, s9, s10] at this
            exact this
    · obtain ⟨Z, z1, z2, z4⟩ := ih n (i + 1) S (by omega) (by omega) h9 ht hn h6 hg
      refine ⟨Z, ?_, z2, fun k => ?_⟩
      · by_cases q1 : gi S 31 13 i = 0
        · have q2 : ¬ gi S 31 6 i = nI p := fun x => q ⟨q1, x⟩
          simp [f_X9_pattern_65, mcF, cnt, ck_t, lt_s_, ob_s, h9, hle, ho, if_bif, bif_t _ _ q1, ci, ii, q2, nI_1, z1]
        · simp [f_X9_pattern_65, mcF, cnt, ck_t, lt_s_, ob_s, h9, hle, ho, if_bif, bif_f _ _ q1, ci, ii, nI_1, z1]
      · obtain ⟨k1, k2⟩ := z4 k
        refine ⟨fun a b x => ?_, fun x => ?_⟩
        · by_cases hki : k = i
          · subst hki; exact absurd x q
          · exact k1 (by omega) b x
        · exact k2 (fun a b => x (by omega) b)
theorem op_pattern (N : Nat) (hN : 201 ≤ N) (a1 a2 a3 a4 : Int32) : OpOk (f_X8_pattern csF N a1 a2 a3 a4) (f_X9_pattern csF N a1 a2 a3 a4) := by
  intro S hI
  obtain ⟨hA, hF, hH, hP, hO, hR, hT, hE, hB⟩ := id hI
  obtain ⟨w1, w2, w3, w4, w5⟩ := id hA
  obtain ⟨e9, hc⟩ := nat_rg w4
  generalize hcc : nat (gi S 30 0 1) = c at e9 hc
  have e9' : gi S 0 0 9 = nI c := w3.trans e9
  by_cases h1 : btw 0 a1 5
  · by_cases h2 : btw 1 a2 30
    · by_cases h3 : btw 0 a3 20
      · by_cases h4 : btw 0 a4 90
        · obtain ⟨p, hp, rfl⟩ := btw_nI (hi := 5) h1 (by decide)
          obtain ⟨b, hb, rfl⟩ := btw_nI (hi := 90) h4 (by decide)
          have hp6 : p < 6 := by omega
          have cp : (nI p).toNatClampNeg = p := cl_k (by omega)
          have ip : inb (nI p) 6 = true := inb_k hp6 (by decide)
          have hlt : ∀ k : Nat, k < c ↔ (k : Int) < (gi S 30 0 1).toInt := fun k => by rw [e9, nI_toInt (by omega)]; omega
          have hgr : ∀ k, k < c → rg (gi S 31 7 k) 1 20 := fun k hk => ((hO k (by omega)).2.1 ((hlt k).mp hk)).2.1.2
          have hgrC : ∀ k, k < c → gi S 7 k 2 = gi S 31 7 k := fun k hk => ((hO k (by omega)).2.1 ((hlt k).mp hk)).2.1.1
          obtain ⟨S1, z1, z2, z3, z4⟩ := X8_pat_loop N hN (c := c) (p := p) (b := b) (t := a2) (nn := a3) (by omega) hp6 hb c N 0 (ui (ui (ui S 6 p 0 a2) 6 p 1 a3) 6 p 2 (nI b)) (by omega) (by omega) (by simp [gi_ui]; exact e9') (by simp [gi_ui]) (by simp [gi_ui]) (by simp [gi_ui]) (fun k hk => by simp [gi_ui]; rw [hgrC k hk]; exact hgr k hk)
          have hz0 : nI 0 = 0 := rfl
          rw [hz0] at z1
          have gC : f_X8_pattern csF N (nI p) a2 a3 (nI b) S = some (1, S1) := by
            simp [f_X8_pattern, X8_isPattern_eq, X8_isWithin_eq, ob_s, if_bif, bif_t _ _ h1, bif_t _ _ h2, bif_t _ _ h3, bif_t _ _ h4, mcF, cnt, ck_t, lt_s_, cp, ip, hp6, z1]
          have m1 : Md ml_X8_pattern S S1 := md_X8_pattern _ _ _ _ _ _ _ _ _ gC
          obtain ⟨S2, y1, y2, y4⟩ := X9_pat_loop N hN (c := c) (p := p) (b := b) (t := a2) (nn := a3) (by omega) hp6 hb c N 0 (ui (ui (ui S1 31 3 p a2) 31 4 p a3) 31 5 p (nI b)) (by omega) (by omega) (by simp [gi_ui]; rw [m1.gi _ _ _ rfl]; exact e9) (by simp [gi_ui]) (by simp [gi_ui]) (by simp [gi_ui]) (fun k hk => by simp [gi_ui]; rw [m1.gi _ _ _ rfl]; exact hgr k hk)
          rw [hz0] at y1
          have gM : f_X9_pattern csF N (nI p) a2 a3 (nI b) S1 = some (1, S2) := by
            simp [f_X9_pattern, X9_isPattern_eq, X9_isIn_eq, ob_s, if_bif, bif_t _ _ h1, bif_t _ _ h2, bif_t _ _ h3, bif_t _ _ h4, mcF, cnt, ck_t, lt_s_, cp, ip, y1]
          have m2 : Md ml_X9_pattern S1 S2 := md_X9_pattern _ _ _ _ _ _ _ _ _ gM
          have hm := m1.app m2
          refine ⟨1, S1, S2, gC, gM, IvA_md hm rfl rfl rfl rfl rfl rfl hA, IvF_md hm (fun _ => rfl) (fun _ => rfl) (fun _ => rfl) (fun _ => rfl) (fun _ => rfl) hF, IvH_md hm (fun _ _ => rfl) (fun _ => rfl) hH, ?_, ?_, IvR_md hm rfl rfl (fun _ _ => rfl) (fun _ _ => rfl) (fun _ _ => rfl) (fun _ => rfl) (fun _ => rfl) (fun _ => rfl) hR, IvT_md hm rfl rfl (fun _ => rfl) (fun _ => rfl) hT, IvE_md hm rfl rfl rfl rfl hE, Or.inl ?_⟩
          · intro p' hp'
            rw [m2.gi 6 p' 0 rfl, m2.gi 6 p' 1 rfl, m2.gi 6 p' 2 rfl, z2.gi 6 p' 0 rfl, z2.gi 6 p' 1 rfl, z2.gi 6 p' 2 rfl, y2.gi 31 3 p' rfl, y2.gi 31 4 p' rfl, y2.gi 31 5 p' rfl]
            by_cases hpp : p' = p
            · subst hpp
              simp [gi_ui]
              exact ⟨h2, h3, h4⟩
            · simp [gi_ui, hpp]
              rw [m1.gi 31 3 p' rfl, m1.gi 31 4 p' rfl, m1.gi 31 5 p' rfl]
              exact hP p' hp'
          · intro i hi
            obtain ⟨q1, q2, q3⟩ := hO i hi
            rw [hm.gi 7 i 0 rfl, hm.gi 7 i 8 rfl, hm.gi 30 0 1 rfl]
            refine ⟨q1, fun x => ?_, q3⟩
            have hic := (hlt i).mpr x
            obtain ⟨o1, o2, o3, o4, o5, o6, o7, o8, o9, o10, o11⟩ := q2 x
            have hitE : hitC (ui (ui (ui S 6 p 0 a2) 6 p 1 a3) 6 p 2 (nI b)) p i ↔ hitM (ui (ui (ui S1 31 3 p a2) 31 4 p a3) 31 5 p (nI b)) p i := by
              unfold hitC hitM
              simp [gi_ui]
              rw [m1.gi 31 13 i rfl, m1.gi 31 6 i rfl, o8.1, o1.1]
            obtain ⟨c1, c2⟩ := z4 i
            obtain ⟨d1, d2⟩ := y4 i
            unfold OrdOk
            rw [hm.gi 7 i 1 rfl, hm.gi 7 i 2 rfl, hm.gi 7 i 3 rfl, hm.gi 7 i 4 rfl, hm.gi 7 i 8 rfl, hm.gi 31 6 i rfl, hm.gi 31 7 i rfl, hm.gi 31 8 i rfl, hm.gi 31 9 i rfl, hm.gi 31 13 i rfl, m2.gi 7 i 5 rfl, m2.gi 7 i 6 rfl, m2.gi 7 i 7 rfl, m2.gi 7 i 9 rfl, m2.gi 7 i 10 rfl]
            by_cases hit : hitC (ui (ui (ui S 6 p 0 a2) 6 p 1 a3) 6 p 2 (nI b)) p i
            · obtain ⟨n1, n2, n3, n4, n5⟩ := c1 (Nat.zero_le i) hic hit
              obtain ⟨k1, k2, k3, k4, k5⟩ := d1 (Nat.zero_le i) hic (hitE.mp hit)
              have eg : gi (ui (ui (ui S 6 p 0 a2) 6 p 1 a3) 6 p 2 (nI b)) 7 i 2 = gi S 31 7 i := by simp [gi_ui]; exact o2.1
              have eg2 : gi (ui (ui (ui S1 31 3 p a2) 31 4 p a3) 31 5 p (nI b)) 31 7 i = gi S 31 7 i := by simp [gi_ui]; exact m1.gi 31 7 i rfl
              rw [eg] at n1 n2 n3
              rw [eg2] at k1 k2 k3
              rw [n1, n2, n3, n4, n5, k1, k2, k3, k4, k5]
              have hgi := hgr i hic
              have hg1 : 1 ≤ nat (gi S 31 7 i) := by unfold rg at hgi; unfold nat; omega
              have hg2 : nat (gi S 31 7 i) ≤ 20 := by unfold rg at hgi; unfold nat; omega
              obtain ⟨u1, u2⟩ := mk_rng (b := b) hg1 hg2
              generalize mk (nat (gi S 31 7 i)) b = M at u1 u2
              have hr2 : rg a2 1 30 := h2
              have hr3 : rg a3 0 20 := h3
              obtain ⟨v1, v2, v3⟩ := mul_rg (m := M) (t := a2) (k := 30) u2 ⟨by unfold rg at hr2; omega, hr2.2⟩ (by decide)
              obtain ⟨x1, x2, x3⟩ := mul_rg (m := M) (t := a3) (k := 20) u2 hr3 (by decide)
              have hlow : 1 ≤ (M : Int) * a2.toInt := by
                have h8 : (1 : Int) * 1 ≤ (M : Int) * a2.toInt := Int.mul_le_mul (by omega) hr2.1 (by decide) (by omega)
                omega
              refine ⟨o1, o2, o3, o4, rfl, ⟨rfl, by unfold rg; rw [v1]; omega⟩, ⟨rfl, by unfold rg; rw [x1]; omega⟩, o8, rfl, ⟨rfl, by simp [rg]⟩, by unfold rg; rw [v1]; simp; omega, fun _ => ?_⟩
              unfold rg
              rw [v1]
              simp
              omega
            · obtain ⟨n1, n2, n3, n4, n5⟩ := c2 (fun _ _ => hit)
              obtain ⟨k1, k2, k3, k4, k5⟩ := d2 (fun _ _ y => hit (hitE.mpr y))
              rw [n1, n2, n3, n4, n5, k1, k2, k3, k4, k5]
              simp [gi_ui]
              rw [m1.gi 31 10 i rfl, m1.gi 31 11 i rfl, m1.gi 31 12 i rfl, m1.gi 31 14 i rfl, m1.gi 31 15 i rfl]
              exact q2 x
          · rw [m2.gi 0 0 7 rfl]; exact z3
        · refine ⟨0, S, S, ?_, ?_, hI⟩
          · simp [f_X8_pattern, X8_isPattern_eq, X8_isWithin_eq, ob_s, if_bif, bif_t _ _ h1, bif_t _ _ h2, bif_t _ _ h3, bif_f _ _ h4]
          · simp [f_X9_pattern, X9_isPattern_eq, X9_isIn_eq, ob_s, if_bif, bif_t _ _ h1, bif_t _ _ h2, bif_t _ _ h3, bif_f _ _ h4]
      · refine ⟨0, S, S, ?_, ?_, hI⟩
        · simp [f_X8_pattern, X8_isPattern_eq, X8_isWithin_eq, ob_s, if_bif, bif_t _ _ h1, bif_t _ _ h2, bif_f _ _ h3]
        · simp [f_X9_pattern, X9_isPattern_eq, X9_isIn_eq, ob_s, if_bif, bif_t _ _ h1, bif_t _ _ h2, bif_f _ _ h3]
    · refine ⟨0, S, S, ?_, ?_, hI⟩
      · simp [f_X8_pattern, X8_isPattern_eq, X8_isWithin_eq, ob_s, if_bif, bif_t _ _ h1, bif_f _ _ h2]
      · simp [f_X9_pattern, X9_isPattern_eq, X9_isIn_eq, ob_s, if_bif, bif_t _ _ h1, bif_f _ _ h2]
  · refine ⟨0, S, S, ?_, ?_, hI⟩
    · simp [f_X8_pattern, X8_isPattern_eq, ob_s, if_bif, bif_f _ _ h1]
    · simp [f_X9_pattern, X9_isPattern_eq, ob_s, if_bif, bif_f _ _ h1]
