/-! ===== the calls, one by one: equal answers, the relation stays ===== -/
theorem mcF (c k : Nat) : mc csF c k = (decide (c < 33) && decide (k < cnt c)) := by
  by_cases h : c < 33
  · rw [mc_csF c k h, decide_eq_true h, Bool.true_and]
  · rw [decide_eq_false h, Bool.false_and]
    unfold mc
    apply Bool.eq_false_iff.mpr
    intro q
    rw [List.contains_iff_mem] at q
    obtain ⟨c', hc', q⟩ := List.mem_flatMap.mp q
    obtain ⟨k', -, q⟩ := List.mem_map.mp q
    cases q
    exact h (List.mem_range.mp hc')
def OpOk (fc fm : HS → Option (Int32 × HS)) : Prop := ∀ S, Inv S → ∃ r S1 S2, fc S = some (r, S1) ∧ fm S1 = some (r, S2) ∧ Inv S2
theorem inb_k {k n : Nat} (h : k < n) (hn : n < 2147483648) : inb (nI k) n = true := inb_nI h (by omega)
theorem cl_k {k : Nat} (h : k < 2147483648) : (nI k).toNatClampNeg = k := nI_clamp (by omega)
theorem op_lend (N : Nat) (a g : Int32) : OpOk (f_X8_lend csF N a g) (f_X9_lend csF N a g) := by
  intro S hI
  obtain ⟨hA, hF, hH, hP, hO, hR, hT, hE, hB⟩ := id hI
  by_cases h1 : btw 0 a 3
  · by_cases h2 : btw 1 g 9999
    · obtain ⟨k, hk, rfl⟩ := btw_nI (hi := 3) h1 (by decide)
      have hk4 : k < 4 := by omega
      have ck4 : (nI k).toNatClampNeg = k := cl_k (by omega)
      have ib4 : inb (nI k) 4 = true := inb_k hk4 (by decide)
      obtain ⟨e0, e1, e2, e3⟩ := hF k hk4
      by_cases h3 : gi S 31 1 k + g ≤ 99999
      · refine ⟨1, ui (ui S 4 k 2 (gi S 31 1 k + g)) 0 0 7 0, ui (ui (ui S 4 k 2 (gi S 31 1 k + g)) 0 0 7 0) 31 1 k (gi S 31 1 k + g), ?_, ?_, ?_⟩
        · simp [f_X8_lend, X8_isFamily_eq, X8_isWithin_eq, ob_s, if_bif, bif_t _ _ h1, bif_t _ _ h2, mcF, cnt, ck_t, lt_s_, ck4, ib4, hk4, e1, h3]
        · simp [f_X9_lend, X9_isFamily_eq, X9_isIn_eq, ob_s, if_bif, bif_t _ _ h1, bif_t _ _ h2, mcF, cnt, ck_t, lt_s_, ck4, ib4, hk4, h3, gi_ui_c]
        · have hm : Md [(4, none, some 2), (0, some 0, some 7), (31, some 1, none)] S (ui (ui (ui S 4 k 2 (gi S 31 1 k + g)) 0 0 7 0) 31 1 k (gi S 31 1 k + g)) := (((Md.rf _ S).ui rfl rfl).ui rfl rfl).ui rfl rfl
          refine ⟨IvA_md hm rfl rfl rfl rfl rfl rfl hA, ?_, IvH_md hm (fun _ _ => rfl) (fun _ => rfl) hH, IvP_md hm (fun _ _ => rfl) (fun _ => rfl) (fun _ => rfl) (fun _ => rfl) hP, IvO_md hm rfl (fun _ _ => rfl) (pm_r (by decide)) hO, IvR_md hm rfl rfl (fun _ _ => rfl) (fun _ _ => rfl) (fun _ _ => rfl) (fun _ => rfl) (fun _ => rfl) (fun _ => rfl) hR, IvT_md hm rfl rfl (fun _ => rfl) (fun _ => rfl) hT, IvE_md hm rfl rfl rfl rfl hE, Or.inl ?_⟩
          · intro f hf
            obtain ⟨q0, q1, q2, q3⟩ := hF f hf
            by_cases hfk : f = k
            · subst hfk
              simp [gi_ui, q0, q3]
              unfold btw at h2
              rw [i_le] at h3
              unfold rg at q2 ⊢
              have hs := i_add (x := gi S 31 1 f) (y := g) (by simp at h2; omega) (by simp at h2; omega)
              rw [hs] at h3 ⊢
              simp at h2 h3
              omega
            · simp [gi_ui, hfk, q0, q1, q2, q3]
          · simp [gi_ui]
      · refine ⟨0, S, S, ?_, ?_, hI⟩
        · simp [f_X8_lend, X8_isFamily_eq, X8_isWithin_eq, ob_s, if_bif, bif_t _ _ h1, bif_t _ _ h2, mcF, cnt, ck_t, lt_s_, ck4, ib4, hk4, e1, h3]
        · simp [f_X9_lend, X9_isFamily_eq, X9_isIn_eq, ob_s, if_bif, bif_t _ _ h1, bif_t _ _ h2, mcF, cnt, ck_t, lt_s_, ck4, ib4, hk4, h3]
    · refine ⟨0, S, S, ?_, ?_, hI⟩
      · simp [f_X8_lend, X8_isFamily_eq, X8_isWithin_eq, ob_s, if_bif, bif_t _ _ h1, bif_f _ _ h2]
      · simp [f_X9_lend, X9_isFamily_eq, X9_isIn_eq, ob_s, if_bif, bif_t _ _ h1, bif_f _ _ h2]
  · refine ⟨0, S, S, ?_, ?_, hI⟩
    · simp [f_X8_lend, X8_isFamily_eq, ob_s, if_bif, bif_f _ _ h1]
    · simp [f_X9_lend, X9_isFamily_eq, ob_s, if_bif, bif_f _ _ h1]
