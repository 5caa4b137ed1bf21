theorem dC_md {M : List (Nat × Option Nat × Option Nat)} {S Z : HS} (h : Md M S Z) (a1 : pm M 0 0 5 = false) (a2 : pm M 0 0 8 = false) (a3 : pm M 0 0 9 = false) (a4 : ∀ k, pm M 4 k 2 = false) (a5 : ∀ k j, pm M 5 k j = false) (a7 : ∀ k j, pm M 7 k j = false) (b1 : ∀ k j, pm M 21 k j = false) (b2 : ∀ k j, pm M 23 k j = false) (b3 : ∀ k j, pm M 24 k j = false) : dC Z = dC S := by
  have e1 := h.gi _ _ _ a1
  have e2 := h.gi _ _ _ a2
  have e3 := h.gi _ _ _ a3
  have e4 : ∀ k, gi Z 4 k 2 = gi S 4 k 2 := fun k => h.gi _ _ _ (a4 k)
  have e5 : ∀ k j, gi Z 5 k j = gi S 5 k j := fun k j => h.gi _ _ _ (a5 k j)
  have e7 : ∀ k j, gi Z 7 k j = gi S 7 k j := fun k j => h.gi _ _ _ (a7 k j)
  have f1 : ∀ k j, gi Z 21 k j = gi S 21 k j := fun k j => h.gi _ _ _ (b1 k j)
  have f2 : ∀ k j, gi Z 23 k j = gi S 23 k j := fun k j => h.gi _ _ _ (b2 k j)
  have f3 : ∀ k j, gl Z 24 k j = gl S 24 k j := fun k j => h.gl _ _ _ (b3 k j)
  funext c a b
  unfold dC okC rkC
  simp only [e1, e2, e3, e4, e5, e7, f1, f2, f3]
theorem PlanOk_md {M : List (Nat × Option Nat × Option Nat)} {S Z : HS} (h : Md M S Z) (a1 : pm M 0 0 5 = false) (a2 : pm M 0 0 8 = false) (a3 : pm M 0 0 9 = false) (a4 : ∀ k, pm M 4 k 2 = false) (a5 : ∀ k j, pm M 5 k j = false) (a7 : ∀ k j, pm M 7 k j = false) (b1 : ∀ k j, pm M 21 k j = false) (b2 : ∀ k j, pm M 23 k j = false) (b3 : ∀ k j, pm M 24 k j = false) (c1 : ∀ k j, pm M 12 k j = false) (c2 : ∀ k j, pm M 13 k j = false) (q : PlanOk S) : PlanOk Z := by
  unfold PlanOk at q ⊢
  rw [dC_md h a1 a2 a3 a4 a5 a7 b1 b2 b3]
  obtain ⟨g, q1, q2, q3, q4⟩ := q
  refine ⟨g, q1, by rw [h.gi _ _ _ (c1 _ _)]; exact q2, by rw [h.gi _ _ _ (c1 _ _)]; exact q3, fun i hi => ?_⟩
  rw [h.gi _ _ _ (c2 0 i), h.gi _ _ _ (c2 1 i), h.gi _ _ _ (c2 2 i)]
  exact q4 i hi
theorem IvB_md {M : List (Nat × Option Nat × Option Nat)} {S Z : HS} (h : Md M S Z) (a0 : pm M 0 0 7 = false) (a1 : pm M 0 0 5 = false) (a2 : pm M 0 0 8 = false) (a3 : pm M 0 0 9 = false) (a4 : ∀ k, pm M 4 k 2 = false) (a5 : ∀ k j, pm M 5 k j = false) (a7 : ∀ k j, pm M 7 k j = false) (b1 : ∀ k j, pm M 21 k j = false) (b2 : ∀ k j, pm M 23 k j = false) (b3 : ∀ k j, pm M 24 k j = false) (c1 : ∀ k j, pm M 12 k j = false) (c2 : ∀ k j, pm M 13 k j = false) (q : IvB S) : IvB Z := by
  unfold IvB at q ⊢
  rw [h.gi _ _ _ a0]
  exact q.imp id (fun x => ⟨x.1, PlanOk_md h a1 a2 a3 a4 a5 a7 b1 b2 b3 c1 c2 x.2⟩)
theorem op_bring (N : Nat) (a : Int32) : OpOk (f_X8_bring csF N a) (f_X9_bring csF N a) := by
  intro S hI
  obtain ⟨hA, hF, hH, hP, hO, hR, hT, hE, hB⟩ := id hI
  by_cases h1 : btw 0 a 3
  · obtain ⟨k, hk, rfl⟩ := btw_nI (hi := 3) h1 (by decide)
    have hk4 : k < 4 := by omega
    have ck4 : (nI k).toNatClampNeg = k := cl_k (by omega)
    have ib4 : inb (nI k) 4 = true := inb_k hk4 (by decide)
    obtain ⟨e0, e1, e2, e3⟩ := hF k hk4
    refine ⟨gi S 31 1 k, ui (ui S 4 k 2 0) 0 0 7 0, ui (ui (ui S 4 k 2 0) 0 0 7 0) 31 1 k 0, ?_, ?_, ?_⟩
    · simp [f_X8_bring, X8_isFamily_eq, ob_s, if_bif, bif_t _ _ h1, mcF, cnt, ck_t, lt_s_, ck4, ib4, hk4, e1]
    · simp [f_X9_bring, X9_isFamily_eq, ob_s, if_bif, bif_t _ _ h1, mcF, cnt, ck_t, lt_s_, ck4, ib4, hk4, gi_ui_c]
    · have hm : Md [(4, none, some 2), (0, some 0, some 7), (31, some 1, none)] S (ui (ui (ui S 4 k 2 0) 0 0 7 0) 31 1 k 0) := (((Md.rf _ S).ui rfl rfl).ui rfl rfl).ui rfl rfl
      refine ⟨IvA_md hm rfl rfl rfl rfl rfl rfl hA, ?_, IvH_md hm (fun _ _ => rfl) (fun _ => rfl) hH, IvP_md hm (fun _ _ => rfl) (fun _ => rfl) (fun _ => rfl) (fun _ => rfl) hP, IvO_md hm rfl (fun _ _ => rfl) (pm_r (by decide)) hO, IvR_md hm rfl rfl (fun _ _ => rfl) (fun _ _ => rfl) (fun _ _ => rfl) (fun _ => rfl) (fun _ => rfl) (fun _ => rfl) hR, IvT_md hm rfl rfl (fun _ => rfl) (fun _ => rfl) hT, IvE_md hm rfl rfl rfl rfl hE, Or.inl ?_⟩
      · intro f hf
        obtain ⟨q0, q1, q2, q3⟩ := hF f hf
        by_cases hfk : f = k
        · subst hfk
          simp [gi_ui, q0, q3, rg]
        · simp [gi_ui, hfk, q0, q1, q2, q3]
      · simp [gi_ui]
  · refine ⟨-1, S, S, ?_, ?_, hI⟩
    · simp [f_X8_bring, X8_isFamily_eq, ob_s, if_bif, bif_f _ _ h1]
    · simp [f_X9_bring, X9_isFamily_eq, ob_s, if_bif, bif_f _ _ h1]
theorem ix52 (k w : Nat) : (52 : Int32) * nI k + nI w = nI (52 * k + w) := by rw [show (52 : Int32) = nI 52 from rfl, pk_mul, nI_add]
theorem ix4 (k w : Nat) : (4 : Int32) * nI k + nI w = nI (4 * k + w) := by rw [show (4 : Int32) = nI 4 from rfl, pk_mul, nI_add]
theorem op_hours (N : Nat) (a w n : Int32) : OpOk (f_X8_hours csF N a w n) (f_X9_hours csF N a w n) := by
  intro S hI
  obtain ⟨hA, hF, hH, hP, hO, hR, hT, hE, hB⟩ := id hI
  by_cases h1 : btw 0 a 3
  · by_cases h2 : btw (gi S 30 0 0) w 51
    · by_cases h3 : btw 0 n 99
      · obtain ⟨k, hk, rfl⟩ := btw_nI (hi := 3) h1 (by decide)
        have h2' : btw 0 w 51 := by
          have := hA.2.1
          unfold rg at this; unfold btw at h2 ⊢
          simp at h2 ⊢
          omega
        obtain ⟨v, hv, rfl⟩ := btw_nI (hi := 51) h2' (by decide)
        have hk4 : k < 4 := by omega
        have ck4 : (nI k).toNatClampNeg = k := cl_k (by omega)
        have ib4 : inb (nI k) 4 = true := inb_k hk4 (by decide)
        have cv : (nI v).toNatClampNeg = v := cl_k (by omega)
        have ibv : inb (nI v) 52 = true := inb_k (by omega) (by decide)
        have cx : (nI (52 * k + v)).toNatClampNeg = 52 * k + v := cl_k (by omega)
        have ibx : inb (nI (52 * k + v)) 208 = true := inb_k (by omega) (by decide)
        refine ⟨1, ui (ui S 5 k v n) 0 0 7 0, ui (ui (ui S 5 k v n) 0 0 7 0) 31 0 (52 * k + v) n, ?_, ?_, ?_⟩
        · simp [f_X8_hours, X8_isFamily_eq, X8_isWeekToCome_eq, X8_isWithin_eq, ob_s, if_bif, bif_t _ _ h1, hA.1, bif_t _ _ h2, bif_t _ _ h3, mcF, cnt, ck_t, lt_s_, ck4, ib4, hk4, cv, ibv]
        · simp [f_X9_hours, X9_isFamily_eq, X9_isWeek_eq, X9_isIn_eq, ob_s, if_bif, bif_t _ _ h1, gi_ui_c, bif_t _ _ h2, bif_t _ _ h3, mcF, cnt, ck_t, lt_s_, ix52, cx, ibx]
        · have hm : Md [(5, none, none), (0, some 0, some 7), (31, some 0, none)] S (ui (ui (ui S 5 k v n) 0 0 7 0) 31 0 (52 * k + v) n) := (((Md.rf _ S).ui rfl rfl).ui rfl rfl).ui rfl rfl
          refine ⟨IvA_md hm rfl rfl rfl rfl rfl rfl hA, IvF_md hm (fun _ => rfl) (fun _ => rfl) (fun _ => rfl) (fun _ => rfl) (fun _ => rfl) hF, ?_, IvP_md hm (fun _ _ => rfl) (fun _ => rfl) (fun _ => rfl) (fun _ => rfl) hP, IvO_md hm rfl (fun _ _ => rfl) (pm_r (by decide)) hO, IvR_md hm rfl rfl (fun _ _ => rfl) (fun _ _ => rfl) (fun _ _ => rfl) (fun _ => rfl) (fun _ => rfl) (fun _ => rfl) hR, IvT_md hm rfl rfl (fun _ => rfl) (fun _ => rfl) hT, IvE_md hm rfl rfl rfl rfl hE, Or.inl ?_⟩
          · intro f hf u hu
            obtain ⟨q0, q1⟩ := hH f hf u hu
            by_cases hfk : f = k ∧ u = v
            · obtain ⟨rfl, rfl⟩ := hfk
              simp [gi_ui]
              exact h3
            · have hne : ¬ 52 * f + u = 52 * k + v := by omega
              simp [gi_ui, hfk, hne, q0, q1]
          · simp [gi_ui]
      · refine ⟨0, S, S, ?_, ?_, hI⟩
        · simp [f_X8_hours, X8_isFamily_eq, X8_isWeekToCome_eq, X8_isWithin_eq, ob_s, if_bif, bif_t _ _ h1, hA.1, bif_t _ _ h2, bif_f _ _ h3, mcF, cnt, ck_t]
        · simp [f_X9_hours, X9_isFamily_eq, X9_isWeek_eq, X9_isIn_eq, ob_s, if_bif, bif_t _ _ h1, bif_t _ _ h2, bif_f _ _ h3, mcF, cnt, ck_t]
    · refine ⟨0, S, S, ?_, ?_, hI⟩
      · simp [f_X8_hours, X8_isFamily_eq, X8_isWeekToCome_eq, ob_s, if_bif, bif_t _ _ h1, hA.1, bif_f _ _ h2, mcF, cnt, ck_t]
      · simp [f_X9_hours, X9_isFamily_eq, X9_isWeek_eq, ob_s, if_bif, bif_t _ _ h1, bif_f _ _ h2, mcF, cnt, ck_t]
  · refine ⟨0, S, S, ?_, ?_, hI⟩
    · simp [f_X8_hours, X8_isFamily_eq, ob_s, if_bif, bif_f _ _ h1]
    · simp [f_X9_hours, X9_isFamily_eq, ob_s, if_bif, bif_f _ _ h1]
theorem X8_isOrder_eq (N : Nat) (a : Int32) (S : HS) (hc : rg (gi S 0 0 9) 0 7) : f_X8_isOrder csF N a S = some (bif_ (btw 0 a (gi S 0 0 9 - 1)) 1 0, S) := by
  have hs := i_sub (x := gi S 0 0 9) (y := 1) (by unfold rg at hc; simp; omega) (by unfold rg at hc; simp; omega)
  unfold f_X8_isOrder
  by_cases h1 : a < 0
  · rw [if_pos h1, bif_f _ _ (fun h => by rw [i_lt] at h1; unfold btw at h; simp at h h1; omega)]
  · rw [if_neg h1, mF (by decide) (by decide), ck_t]
    by_cases h2 : gi S 0 0 9 ≤ a
    · rw [if_pos h2, bif_f _ _ (fun h => by rw [i_le] at h2; unfold btw at h; rw [hs] at h; simp at h h2; omega)]
    · rw [if_neg h2, bif_t _ _ (by rw [i_lt] at h1; rw [i_le] at h2; unfold btw; rw [hs]; simp at h1 h2 ⊢; omega)]
/-- an order's number -/
theorem btw_ord {a c : Int32} (hc : rg c 0 7) (h : btw 0 a (c - 1)) : ∃ k : Nat, k < 7 ∧ (k : Int) < c.toInt ∧ a = nI k := by
  have hs := i_sub (x := c) (y := 1) (by unfold rg at hc; simp; omega) (by unfold rg at hc; simp; omega)
  unfold btw at h; unfold rg at hc
  rw [hs] at h
  simp at h
  refine ⟨a.toInt.toNat, by omega, by omega, ?_⟩
  rw [i_eq, nI_toInt (by omega)]
  omega
theorem ord_btw {k : Nat} {c : Int32} (hc : rg c 0 7) (h : (k : Int) < c.toInt) : btw 0 (nI k) (c - 1) := by
  have hs := i_sub (x := c) (y := 1) (by unfold rg at hc; simp; omega) (by unfold rg at hc; simp; omega)
  unfold rg at hc
  unfold btw
  rw [hs, nI_toInt (by omega)]
  simp
  omega
theorem X9_isOpen_eq (N : Nat) (k : Nat) (S : HS) (hk : k < 7) (hc : rg (gi S 30 0 1) 0 7) (h : (k : Int) < (gi S 30 0 1).toInt) : f_X9_isOpen csF N (nI k) S = some (bif_ (gi S 31 13 k = 0) 1 0, S) := by
  have h1 := ord_btw hc h
  by_cases q : gi S 31 13 k = 0
  · simp [f_X9_isOpen, X9_isIn_eq, ob_s, if_bif, bif_t _ _ h1, mcF, cnt, ck_t, inb_k hk, cl_k (show k < 2147483648 by omega), q, bif_t _ _ rfl]
    rw [bif_t _ _ (by simp)]
  · simp [f_X9_isOpen, X9_isIn_eq, ob_s, if_bif, bif_t _ _ h1, mcF, cnt, ck_t, inb_k hk, cl_k (show k < 2147483648 by omega), q]
    rw [bif_f _ _ (by simp)]
theorem op_drop (N : Nat) (a : Int32) : OpOk (f_X8_drop csF N a) (f_X9_drop csF N a) := by
  intro S hI
  obtain ⟨hA, hF, hH, hP, hO, hR, hT, hE, hB⟩ := id hI
  obtain ⟨a1, a2, a3, a4, a5⟩ := id hA
  by_cases h1 : btw 0 a (gi S 30 0 1 - 1)
  · obtain ⟨k, hk, hkc, rfl⟩ := btw_ord a4 h1
    have ck4 : (nI k).toNatClampNeg = k := cl_k (by omega)
    have ib4 : inb (nI k) 7 = true := inb_k hk (by decide)
    obtain ⟨o1, o2, o3, o4, o5, o6, o7, o8, o9, o10, o11⟩ := (hO k hk).2.1 hkc
    by_cases h2 : gi S 31 13 k = 0
    · have e8 : gi S 7 k 8 = 0 := by rw [o8.1, h2]
      refine ⟨1, ui (ui S 7 k 8 2) 0 0 7 0, ui (ui (ui S 7 k 8 2) 0 0 7 0) 31 13 k 2, ?_, ?_, ?_⟩
      · simp [f_X8_drop, X8_isOrder_eq N _ S (by rw [a3]; exact a4), ob_s, if_bif, a3, bif_t _ _ h1, mcF, cnt, ck_t, lt_s_, ck4, ib4, hk, e8]
      · have ho := X9_isOpen_eq N k (ui (ui S 7 k 8 2) 0 0 7 0) hk (by simp [gi_ui]; exact a4) (by simp [gi_ui]; exact hkc)
        simp [f_X9_drop, ho, ob_s, if_bif, gi_ui_c, bif_t _ _ h2, mcF, cnt, ck_t, lt_s_, ck4, ib4, hk]
      · have hm : Md [(7, none, some 8), (0, some 0, some 7), (31, some 13, none)] S (ui (ui (ui S 7 k 8 2) 0 0 7 0) 31 13 k 2) := (((Md.rf _ S).ui rfl rfl).ui rfl rfl).ui rfl rfl
        refine ⟨IvA_md hm rfl rfl rfl rfl rfl rfl hA, IvF_md hm (fun _ => rfl) (fun _ => rfl) (fun _ => rfl) (fun _ => rfl) (fun _ => rfl) hF, IvH_md hm (fun _ _ => rfl) (fun _ => rfl) hH, IvP_md hm (fun _ _ => rfl) (fun _ => rfl) (fun _ => rfl) (fun _ => rfl) hP, ?_, IvR_md hm rfl rfl (fun _ _ => rfl) (fun _ _ => rfl) (fun _ _ => rfl) (fun _ => rfl) (fun _ => rfl) (fun _ => rfl) hR, IvT_md hm rfl rfl (fun _ => rfl) (fun _ => rfl) hT, IvE_md hm rfl rfl rfl rfl hE, Or.inl ?_⟩
        · intro i hi
          obtain ⟨q1, q2, q3⟩ := hO i hi
          by_cases hik : i = k
          · subst hik
            refine ⟨by simp [gi_ui, q1], fun _ => ?_, fun x => ?_⟩
            · unfold OrdOk
              simp [gi_ui, o1, o2, o3, o4, o5, o6, o7, o9, o10, o11.1]
              simp [rg]
            · simp [gi_ui] at x
              omega
          · simp only [gi_ui, OrdOk, hik]
            simp [q1]
            exact ⟨fun x => q2 x, fun x => q3 x⟩
        · simp [gi_ui]
    · have e8 : ¬ gi S 7 k 8 = 0 := by rw [o8.1]; exact h2
      refine ⟨0, S, S, ?_, ?_, hI⟩
      · simp [f_X8_drop, X8_isOrder_eq N _ S (by rw [a3]; exact a4), ob_s, if_bif, a3, bif_t _ _ h1, mcF, cnt, ck_t, lt_s_, ck4, ib4, hk, e8]
      · have ho := X9_isOpen_eq N k S hk a4 hkc
        simp [f_X9_drop, ho, ob_s, if_bif, bif_f _ _ h2, mcF, cnt, ck_t]
  · refine ⟨0, S, S, ?_, ?_, hI⟩
    · simp [f_X8_drop, X8_isOrder_eq N _ S (by rw [a3]; exact a4), ob_s, if_bif, a3, bif_f _ _ h1, mcF, cnt, ck_t]
    · simp [f_X9_drop, f_X9_isOpen, X9_isIn_eq, ob_s, if_bif, bif_f _ _ h1, mcF, cnt, ck_t]
theorem op_end (N : Nat) (a : Int32) : OpOk (f_X8_end csF N a) (f_X9_end csF N a) := by
  intro S hI
  obtain ⟨hA, hF, hH, hP, hO, hR, hT, hE, hB⟩ := id hI
  obtain ⟨t1, t2, t3⟩ := id hT
  by_cases h1 : btw 0 a (gi S 30 0 24)
  · refine ⟨1, ui S 9 0 0 a, ui (ui S 9 0 0 a) 30 0 24 a, ?_, ?_, ?_⟩
    · simp [f_X8_end, X8_isWithin_eq, t1, ob_s, if_bif, bif_t _ _ h1, mcF, cnt, ck_t, lt_s_]
    · simp [f_X9_end, X9_isIn_eq, gi_ui_c, ob_s, if_bif, bif_t _ _ h1, mcF, cnt, ck_t, lt_s_]
    · have hm : Md [(9, some 0, some 0), (30, some 0, some 24)] S (ui (ui S 9 0 0 a) 30 0 24 a) := ((Md.rf _ S).ui rfl rfl).ui rfl rfl
      refine ⟨IvA_md hm rfl rfl rfl rfl rfl rfl hA, IvF_md hm (fun _ => rfl) (fun _ => rfl) (fun _ => rfl) (fun _ => rfl) (fun _ => rfl) hF, IvH_md hm (fun _ _ => rfl) (fun _ => rfl) hH, IvP_md hm (fun _ _ => rfl) (fun _ => rfl) (fun _ => rfl) (fun _ => rfl) hP, IvO_md hm rfl (fun _ _ => rfl) (pm_r (by decide)) hO, IvR_md hm rfl rfl (fun _ _ => rfl) (fun _ _ => rfl) (fun _ _ => rfl) (fun _ => rfl) (fun _ => rfl) (fun _ => rfl) hR, ?_, IvE_md hm rfl rfl rfl rfl hE, IvB_md hm rfl rfl rfl rfl (fun _ => rfl) (fun _ _ => rfl) (fun _ _ => rfl) (fun _ _ => rfl) (fun _ _ => rfl) (fun _ _ => rfl) (fun _ _ => rfl) (fun _ _ => rfl) hB⟩
      unfold btw at h1
      unfold rg at t2
      refine ⟨by simp [gi_ui], by simp [gi_ui, rg]; simp at h1; omega, fun j hj => ?_⟩
      simp [gi_ui] at hj ⊢
      exact t3 j (by omega)
  · refine ⟨0, S, S, ?_, ?_, hI⟩
    · simp [f_X8_end, X8_isWithin_eq, t1, ob_s, if_bif, bif_f _ _ h1, mcF, cnt, ck_t]
    · simp [f_X9_end, X9_isIn_eq, ob_s, if_bif, bif_f _ _ h1, mcF, cnt, ck_t]
theorem op_fault (N : Nat) (a : Int32) : OpOk (f_X8_fault csF N a) (f_X9_fault csF N a) := by
  intro S hI
  obtain ⟨hA, hF, hH, hP, hO, hR, hT, hE, hB⟩ := id hI
  by_cases h0 : a = 0
  · subst h0
    exact ⟨gi S 30 0 31, S, S, by simp [f_X8_fault, mcF, cnt, ck_t, hE.1], by simp [f_X9_fault, mcF, cnt, ck_t], hI⟩
  · by_cases h1 : a = 1
    · subst h1
      exact ⟨gi S 30 0 34, S, S, by simp [f_X8_fault, mcF, cnt, ck_t, hE.2], by simp [f_X9_fault, mcF, cnt, ck_t], hI⟩
    · exact ⟨-1, S, S, by simp [f_X8_fault, h0, h1], by simp [f_X9_fault, h0, h1], hI⟩
theorem som_ite {c : Prop} [Decidable c] (a b : Int32) (S : HS) : (some (if c then a else b, S) : Option (Int32 × HS)) = if c then some (a, S) else some (b, S) := by
  by_cases h : c
  · rw [if_pos h, if_pos h]
  · rw [if_neg h, if_neg h]
theorem op_of (N : Nat) (a w : Int32) : OpOk (f_X8_of csF N a w) (f_X9_of csF N a w) := by
  intro S hI
  obtain ⟨hA, hF, hH, hP, hO, hR, hT, hE, hB⟩ := id hI
  obtain ⟨a1, a2, a3, a4, a5⟩ := id hA
  by_cases h1 : btw 0 a (gi S 30 0 1 - 1)
  · obtain ⟨k, hk, hkc, rfl⟩ := btw_ord a4 h1
    have ck4 : (nI k).toNatClampNeg = k := cl_k (by omega)
    have ib4 : inb (nI k) 7 = true := inb_k hk (by decide)
    obtain ⟨o1, o2, o3, o4, o5, o6, o7, o8, o9, o10, o11⟩ := (hO k hk).2.1 hkc
    refine ⟨if w = 0 then gi S 31 6 k else if w = 1 then gi S 31 7 k else if w = 2 then gi S 31 8 k else if w = 3 then gi S 31 9 k else if w = 4 then gi S 31 10 k else if w = 5 then gi S 31 11 k else if w = 6 then gi S 31 12 k else if w = 7 then gi S 31 13 k else if w = 8 then gi S 31 14 k else if w = 9 then gi S 31 15 k else -1, S, S, ?_, ?_, hI⟩
    · simp only [f_X8_of, X8_isOrder_eq N _ S (by rw [a3]; exact a4), ob_s, if_bif, a3, bif_t _ _ h1, mcF, cnt, ck_t, ck4, ib4, hk, o1.1, o2.1, o3.1, o4.1, o5, o6.1, o7.1, o8.1, o9, o10.1, som_ite]
      simp [ck_t]
    · simp only [f_X9_of, X9_isIn_eq, ob_s, if_bif, bif_t _ _ h1, mcF, cnt, ck_t, ck4, ib4, hk, som_ite]
      simp [ck_t]
  · refine ⟨-1, S, S, ?_, ?_, hI⟩
    · simp [f_X8_of, X8_isOrder_eq N _ S (by rw [a3]; exact a4), ob_s, if_bif, a3, bif_f _ _ h1, mcF, cnt, ck_t]
    · simp [f_X9_of, X9_isIn_eq, ob_s, if_bif, bif_f _ _ h1, mcF, cnt, ck_t]
