/-! ===== the law from its entry ===== -/
set_option maxHeartbeats 4000000 in
set_option maxRecDepth 100000 in
theorem whole_start {p : Program} {e : Env} {s : State} {m : MethodId} {below : List Frame} {meth : Method} {c : Code} (l : Launch) {b L : Nat} {xs : Nat → Int32} (hL : L ≤ 3072) (C0 : lw_At p s m meth c b L xs) : W p l e room_1 s m #[Value.ref b] below meth c s.heap [] 0 0 (lw_Z below #[Value.ref b] s) (entryFrame m ([Value.ref b] : List Value).toArray 4) := by
  obtain ⟨hx, hb, hr, hml, hown, hts, hX, hbl, hlocks, hgv⟩ := id C0
  obtain ⟨D, cy, hK, hZ⟩ := k_0 hts
  obtain ⟨tk, k1, k2, fm, hG⟩ := gz_0 C0
  have hg : ∀ w ∈ gw, w.before #[Value.ref b] s = true := fun w hw => hts w (List.mem_filter.mp hw).1
  have B : Bb p s m #[Value.ref b] meth c D cy s.heap.size cL_law 4 RL := ⟨hx, hb, hml, hown, hg, hK, hZ, Nat.le_refl _, hlocks⟩
  have hl := lv_entry ([.ref b]) (n := 4) (Nat.le_of_ble_eq_true rfl)
  rw [lg_entry_eq]
  generalize (lg_sl ([.ref b]) ++ List.replicate (4 - (lg_sl ([.ref b])).length) Slot.unset).toArray = ls at hl ⊢
  have hl : lv_has ls 4 [(0, .ref b)] := hl
  generalize hh : s.heap.size = h at B hG
  have hw : BW p l e room_1 s m #[Value.ref b] below meth c (lw_Z below #[Value.ref b] s) D h 0 0 4 0 [(0, .ref b)] [] [] := by
    refine b_new (ci := 8) (N := 11) (fs := [.null, .null, .null, .null, .null, .null, .null, .int 0, .int 0, .int 0, .int 0]) (k := 0) B inG_X8 tyX8_ok kl_L_7 ka_X8 kn_X8 rfl (by decide) ⟨by decide, by decide⟩ dL_law_0 rfl ?_
    refine b_dup B dL_law_3 rfl ?_
    refine b_initL (k := 0) (E0 := []) (E1 := eGV cy h) (E' := eGV cy h) (rest := [.ref (h + 0)]) (As := []) B (cb_X8_init h) mi_X8_init km_L_9 rfl rfl (eG_len cy h 4 6 7) ⟨by decide, by decide⟩ ⟨rfl, rfl⟩ rfl rfl (Nat.le_of_ble_eq_true rfl) ⟨by decide, by decide⟩ dL_law_4 rfl ?_
    refine b_astore_n (lv' := [(1, .ref (h + 0)), (0, .ref b)]) B dL_law_7 rfl (by decide) rfl ?_
    refine b_new (ci := 9) (N := 44) (fs := [.int 0, .int 0, .int 0, .null, .null, .null, .null, .null, .null, .null, .null, .null, .null, .null, .null, .null, .null, .null, .null, .null, .null, .null, .null, .null, .int 0, .int 0, .int 0, .int 0, .int 0, .int 0, .int 0, .int 0, .int 0, .int 0, .int 0, .null, .int 0, .null, .null, .null, .null, .null, .int 0, .int 0]) (k := 66) B inG_X9 tyX9_ok kl_L_10 ka_X9 kn_X9 rfl (by decide) ⟨by decide, by decide⟩ dL_law_8 (eG_len cy h 4 6 7) ?_
    refine b_dup B dL_law_11 rfl ?_
    refine b_initL (k := 66) (E0 := eGV cy h) (E1 := eM cy (h + 66)) (E' := eAll cy h) (rest := [.ref (h + 66)]) (As := []) B (cb_X9_init (h + 66)) mi_X9_init km_L_12 rfl (eG_len cy h 4 6 7) rfl ⟨by decide, by decide⟩ ⟨rfl, rfl⟩ rfl rfl (Nat.le_of_ble_eq_true rfl) ⟨by decide, by decide⟩ dL_law_12 rfl ?_
    refine b_astore_n (lv' := [(2, .ref (h + 66)), (1, .ref (h + 0)), (0, .ref b)]) B dL_law_15 rfl (by decide) rfl ?_
    refine b_iconst (v := (0 : Int32)) B dL_law_16 (by decide) ?_
    refine b_istore_n (lv' := [(3, .int (nI 0)), (2, .ref (h + 66)), (1, .ref (h + 0)), (0, .ref b)]) B dL_law_17 rfl (by decide) rfl ?_
    intro hz H locs ls hP hS hl
    have hP2 := all_at (tk := tk) (k1 := k1) (k2 := k2) (fm := fm) hP
    refine va_forget (fun q hq => by rw [hh]; exact hS.2.2 q hq) ?_
    obtain ⟨Z, hZ1⟩ := law_loop 600 (by decide) xs hL (L + 7) 0 S0F (by omega) (by omega) inv_0
    refine b_L_law_18 (Z := Z) (cy := cy) (cs := csF) (ad := adF h tk k1 k2 fm) ⟨hx, hb, hml, hown, hg, hK, adF_ok _ _ _ _ _, hr, hlocks, hG, gZ_ok _ _⟩ hX hbl (fun q => absurd (gA_ge q) (Nat.not_le.mpr (by rw [← hh]; exact hbl))) (fun x hx => ?_) ⟨by decide, by decide⟩ 600 (L + 7) (nI 0) S0F hZ1 H [] ls hP2 ⟨hS.1, fun q h1 h2 => hS.2.1 q h1 (Nat.not_le.mpr (by rw [← hh]; exact h1)), fun _ h => by cases h⟩ (lv_sub hl [3, 2, 1, 0] rfl)
    rw [adF_lo _ _ _ _ _ _ _ (csF_mem hx).1, hh]
    exact Nat.le_add_right _ _
  exact hw (by rw [hh]; rfl) s.heap [] ls (fun k q hq => by cases hq) va_S.rf hl
