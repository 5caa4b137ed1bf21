theorem btw_nI1 {a : Int32} {lo hi : Nat} (h : btw (nI lo) a (nI hi)) (hl : lo < 2 ^ 31) (hh : hi < 2 ^ 31) : ∃ n : Nat, lo ≤ n ∧ n ≤ hi ∧ a = nI n := by
  unfold btw at h
  rw [nI_toInt hh, nI_toInt hl] at h
  refine ⟨a.toInt.toNat, by omega, by omega, ?_⟩
  rw [i_eq, nI_toInt (by omega)]
  omega
theorem mul_rg {m : Nat} {t : Int32} {k : Int} (hm : m ≤ 200) (ht : rg t 0 k) (hk : k ≤ 30) : (nI m * t).toInt = m * t.toInt ∧ 0 ≤ m * t.toInt ∧ m * t.toInt ≤ 200 * k := by
  unfold rg at ht
  have h1 : (m : Int) * t.toInt ≤ 200 * t.toInt := Int.mul_le_mul_of_nonneg_right (by omega) ht.1
  have h0 : 0 ≤ (m : Int) * t.toInt := Int.mul_nonneg (by omega) ht.1
  have e := nI_toInt (n := m) (by omega)
  refine ⟨?_, h0, by omega⟩
  rw [i_mul (by rw [e]; omega) (by rw [e]; omega), e]
theorem op_order (N : Nat) (hN : 201 ≤ N) (a1 a2 a3 a4 : Int32) : OpOk (f_X8_order csF N a1 a2 a3 a4) (f_X9_order csF N a1 a2 a3 a4) := by
  intro S hI
  obtain ⟨hA, hF, hH, hP, hO, hR, hT, hE, hB⟩ := id hI
  obtain ⟨w1, w2, w3, w4, w5⟩ := id hA
  obtain ⟨e9, hc⟩ := nat_rg w4
  generalize hcc : nat (gi S 30 0 1) = c at e9 hc
  have e9' : gi S 0 0 9 = nI c := w3.trans e9
  by_cases h1 : btw 0 a1 5
  · by_cases h2 : btw 1 a2 20
    · by_cases h3 : btw (gi S 30 0 0) a3 51
      · by_cases h4 : btw 1 a4 9999
        · by_cases h5 : c < 7
          · obtain ⟨p, hp, rfl⟩ := btw_nI (hi := 5) h1 (by decide)
            obtain ⟨g, hg1, hg2, rfl⟩ := btw_nI1 (lo := 1) (hi := 20) h2 (by decide) (by decide)
            obtain ⟨p1, p2, p3, p4, p5, p6⟩ := hP p (by omega)
            obtain ⟨eb, hb⟩ := nat_rg p6
            generalize hbb : nat (gi S 31 5 p) = b at eb hb
            have cc : (nI c).toNatClampNeg = c := cl_k (by omega)
            have ic : inb (nI c) 7 = true := inb_k h5 (by decide)
            have cp : (nI p).toNatClampNeg = p := cl_k (by omega)
            have ip : inb (nI p) 6 = true := inb_k (by omega) (by decide)
            have lt7 : nI c < 7 := by rw [show (7 : Int32) = nI 7 from rfl, nI_ltI (by omega) (by omega)]; exact h5
            have ne7 : ¬ nI c = 7 := by rw [show (7 : Int32) = nI 7 from rfl, nI_eq (by omega) (by omega)]; omega
            have rk := X6_reckon_eq N hN (ui (ui (ui (ui S 7 c 1 (nI p)) 7 c 2 (nI g)) 7 c 3 a3) 7 c 4 a4) (i := c) (p := p) (g := g) (b := b) h5 (by omega) hg1 hg2 (by omega) (by simp [gi_ui]) (by simp [gi_ui]; rw [p5, eb])
            have hp6 : p < 6 := by omega
            have gC : f_X8_order csF N (nI p) (nI g) a3 a4 S = some (nI c, ui (ui (rkA (ui (ui (ui (ui S 7 c 1 (nI p)) 7 c 2 (nI g)) 7 c 3 a3) 7 c 4 a4) c (nI (mk g b)) (gi S 31 3 p) (gi S 31 4 p)) 0 0 9 (nI (c + 1))) 0 0 7 0) := by
              simp [gi_ui] at rk
              simp [f_X8_order, X8_isPattern_eq, X8_isWithin_eq, X8_isWeekToCome_eq, ob_s, if_bif, bif_t _ _ h1, bif_t _ _ h2, w1, bif_t _ _ h3, bif_t _ _ h4, mcF, cnt, ck_t, lt_s_, e9', lt7, cc, ic, h5, cp, ip, rk, p1, p3, rkA, gi_ui, nI_1, (hO c h5).1]
            generalize hS1 : ui (ui (rkA (ui (ui (ui (ui S 7 c 1 (nI p)) 7 c 2 (nI g)) 7 c 3 a3) 7 c 4 a4) c (nI (mk g b)) (gi S 31 3 p) (gi S 31 4 p)) 0 0 9 (nI (c + 1))) 0 0 7 0 = S1 at gC
            have m1 : Md ml_X8_order S S1 := md_X8_order _ _ _ _ _ _ _ _ _ gC
            have k0 : gi S1 30 0 0 = gi S 30 0 0 := m1.gi _ _ _ rfl
            have k1 : gi S1 30 0 1 = nI c := (m1.gi _ _ _ rfl).trans e9
            have k5 : gi S1 31 5 p = nI b := (m1.gi _ _ _ rfl).trans eb
            have k3 : gi S1 31 3 p = gi S 31 3 p := m1.gi _ _ _ rfl
            have k4 : gi S1 31 4 p = gi S 31 4 p := m1.gi _ _ _ rfl
            have rk2 := X9_counts_eq N hN (ui (ui (ui (ui (ui (ui S1 30 0 1 (nI (c + 1))) 31 6 c (nI p)) 31 7 c (nI g)) 31 8 c a3) 31 9 c a4) 31 13 c 0) (i := c) (p := p) (g := g) (b := b) h5 hp6 (by omega) hg2 (by simp [gi_ui]) (by simp [gi_ui]) (by simp [gi_ui]; exact k5)
            have gM : f_X9_order csF N (nI p) (nI g) a3 a4 S1 = some (nI c, rkB (ui (ui (ui (ui (ui (ui S1 30 0 1 (nI (c + 1))) 31 6 c (nI p)) 31 7 c (nI g)) 31 8 c a3) 31 9 c a4) 31 13 c 0) c (nI (mk g b)) (gi S 31 3 p) (gi S 31 4 p)) := by
              simp [gi_ui, k3, k4] at rk2
              simp [f_X9_order, X9_isPattern_eq, X9_isIn_eq, X9_isWeek_eq, ob_s, if_bif, bif_t _ _ h1, bif_t _ _ h2, k0, bif_t _ _ h3, bif_t _ _ h4, mcF, cnt, ck_t, lt_s_, k1, ne7, cc, ic, rk2, nI_1]
            refine ⟨nI c, S1, _, gC, gM, ?_⟩
            generalize hS2 : rkB (ui (ui (ui (ui (ui (ui S1 30 0 1 (nI (c + 1))) 31 6 c (nI p)) 31 7 c (nI g)) 31 8 c a3) 31 9 c a4) 31 13 c 0) c (nI (mk g b)) (gi S 31 3 p) (gi S 31 4 p) = S2 at gM
            have m2 : Md ml_X9_order S1 S2 := md_X9_order _ _ _ _ _ _ _ _ _ gM
            have hm := m1.app m2
            have ec1 : (nI (c + 1)).toInt = c + 1 := by rw [nI_toInt (by omega)]; rfl
            have r91 : gi S2 30 0 1 = nI (c + 1) := by rw [← hS2]; simp [rkB, gi_ui]
            refine ⟨?_, IvF_md hm (fun _ => rfl) (fun _ => rfl) (fun _ => rfl) (fun _ => rfl) (fun _ => rfl) hF, IvH_md hm (fun _ _ => rfl) (fun _ => rfl) hH, IvP_md hm (fun _ _ => rfl) (fun _ => rfl) (fun _ => rfl) (fun _ => rfl) hP, ?_, IvR_md hm rfl rfl (fun _ _ => rfl) (fun _ _ => rfl) (fun _ _ => rfl) (fun _ => rfl) (fun _ => rfl) (fun _ => rfl) hR, IvT_md hm rfl rfl (fun _ => rfl) (fun _ => rfl) hT, IvE_md hm rfl rfl rfl rfl hE, Or.inl ?_⟩
            · unfold IvA
              rw [hm.gi 0 0 8 rfl, hm.gi 0 0 10 rfl, hm.gi 30 0 0 rfl, hm.gi 30 0 2 rfl, r91]
              refine ⟨w1, w2, ?_, ?_, w5⟩
              · rw [← hS2, ← hS1]; simp [rkB, rkA, gi_ui]
              · unfold rg; rw [ec1]; omega
            · intro i hi
              obtain ⟨q1, q2, q3⟩ := hO i hi
              rw [r91, ec1]
              by_cases hic : i = c
              · subst hic
                refine ⟨by rw [hm.gi 7 i 0 rfl]; exact q1, fun _ => ?_, fun x => by omega⟩
                obtain ⟨z1, z2⟩ := mk_rng (b := b) hg1 hg2
                obtain ⟨u1, u2, u3⟩ := mul_rg (m := mk g b) (t := gi S 31 3 p) (k := 30) z2 ⟨by unfold rg at p2; omega, p2.2⟩ (by decide)
                obtain ⟨v1, v2, v3⟩ := mul_rg (m := mk g b) (t := gi S 31 4 p) (k := 20) z2 p4 (by decide)
                have hlow : 1 ≤ (mk g b : Int) * (gi S 31 3 p).toInt := by
                  have h8 : (1 : Int) * 1 ≤ (mk g b : Int) * (gi S 31 3 p).toInt := Int.mul_le_mul (by omega) p2.1 (by decide) (by omega)
                  omega
                have ha3 : rg a3 0 51 := by
                  unfold btw at h3
                  unfold rg at w2 ⊢
                  simp at h3
                  omega
                have ha4 : rg a4 1 9999 := h4
                unfold OrdOk
                rw [← hS2, ← hS1]
                simp [rkB, rkA, gi_ui, ha3, ha4, -Int32.toInt_mul]
                refine ⟨nI_rg (by omega) (by omega) (by omega), nI_rg (by omega) (by omega) (by omega), ?_, ?_, ?_, ?_, ?_, ?_⟩
                · unfold rg; rw [u1]; omega
                · unfold rg; rw [v1]; omega
                · exact ⟨q3 (by rw [e9, nI_toInt (by omega)]; omega), by simp [rg]⟩
                · simp [rg]
                · unfold rg; rw [u1]; simp; omega
                · unfold rg; rw [u1]; simp; omega
              · refine ⟨by rw [hm.gi 7 i 0 rfl]; exact q1, fun x => ?_, fun x => ?_⟩
                · have hlt : (i : Int) < (gi S 30 0 1).toInt := by rw [e9, nI_toInt (by omega)]; omega
                  have := q2 hlt
                  unfold OrdOk at this ⊢
                  rw [← hS2, ← hS1]
                  simp [rkB, rkA, gi_ui, hic]
                  exact this
                · rw [hm.gi 7 i 8 rfl]
                  exact q3 (by rw [e9, nI_toInt (by omega)]; omega)
            · rw [← hS2, ← hS1]; simp [rkB, rkA, gi_ui]
          · have ec : c = 7 := by omega
            subst ec
            have nlt : ¬ gi S 0 0 9 < 7 := by rw [e9']; decide
            have e7 : gi S 30 0 1 = 7 := e9
            refine ⟨-1, S, S, ?_, ?_, hI⟩
            · simp [f_X8_order, X8_isPattern_eq, X8_isWithin_eq, X8_isWeekToCome_eq, ob_s, if_bif, bif_t _ _ h1, bif_t _ _ h2, w1, bif_t _ _ h3, bif_t _ _ h4, mcF, cnt, ck_t, nlt]
            · simp [f_X9_order, X9_isPattern_eq, X9_isIn_eq, X9_isWeek_eq, ob_s, if_bif, bif_t _ _ h1, bif_t _ _ h2, bif_t _ _ h3, bif_t _ _ h4, mcF, cnt, ck_t, e7]
        · refine ⟨-1, S, S, ?_, ?_, hI⟩
          · simp [f_X8_order, X8_isPattern_eq, X8_isWithin_eq, X8_isWeekToCome_eq, ob_s, if_bif, bif_t _ _ h1, bif_t _ _ h2, w1, bif_t _ _ h3, bif_f _ _ h4, mcF, cnt, ck_t]
          · simp [f_X9_order, X9_isPattern_eq, X9_isIn_eq, X9_isWeek_eq, ob_s, if_bif, bif_t _ _ h1, bif_t _ _ h2, bif_t _ _ h3, bif_f _ _ h4, mcF, cnt, ck_t]
      · refine ⟨-1, S, S, ?_, ?_, hI⟩
        · simp [f_X8_order, X8_isPattern_eq, X8_isWithin_eq, X8_isWeekToCome_eq, ob_s, if_bif, bif_t _ _ h1, bif_t _ _ h2, w1, bif_f _ _ h3, mcF, cnt, ck_t]
        · simp [f_X9_order, X9_isPattern_eq, X9_isIn_eq, X9_isWeek_eq, ob_s, if_bif, bif_t _ _ h1, bif_t _ _ h2, bif_f _ _ h3, mcF, cnt, ck_t]
    · refine ⟨-1, S, S, ?_, ?_, hI⟩
      · simp [f_X8_order, X8_isPattern_eq, X8_isWithin_eq, ob_s, if_bif, bif_t _ _ h1, bif_f _ _ h2]
      · simp [f_X9_order, X9_isPattern_eq, X9_isIn_eq, ob_s, if_bif, bif_t _ _ h1, bif_f _ _ h2]
  · refine ⟨-1, S, S, ?_, ?_, hI⟩
    · simp [f_X8_order, X8_isPattern_eq, ob_s, if_bif, bif_f _ _ h1]
    · simp [f_X9_order, X9_isPattern_eq, ob_s, if_bif, bif_f _ _ h1]
