theorem PlanOk.cells {S : HS} {D : Pb} (hD : dC S = D) (hp : PlanOk S) : ∃ g, isBest D g ∧ gi S 12 0 0 = nI (prD D g).toNat ∧ gi S 12 0 1 = nI (wkD D g).toNat ∧ ∀ i, i < 7 → gi S 13 0 i = gvI (g i) ∧ ((¬ g i < 4 ∧ gi S 13 1 i = -1 ∧ gi S 13 2 i = 0) ∨ (g i < 4 ∧ ∃ wk hn, planAt D g i wk hn ∧ gi S 13 1 i = nI wk ∧ gi S 13 2 i = nI hn)) := by
  obtain ⟨g, q1, q2, q3, q4⟩ := hp
  rw [hD] at q1 q2 q3 q4
  refine ⟨g, q1, q2, q3, fun i hi => ?_⟩
  rcases q4 i hi with ⟨a, b, c, d⟩ | ⟨a, b, c⟩
  · exact ⟨by rw [b]; exact (gvI_n1.mpr a).symm, Or.inl ⟨a, c, d⟩⟩
  · exact ⟨by rw [b]; unfold gvI; rw [if_pos a], Or.inr ⟨a, c⟩⟩
theorem op_best (N : Nat) (hN : 200 ≤ N) (a : Int32) : OpOk (f_X8_best csF N a) (f_X9_best csF N a) := by
  intro S hI
  obtain ⟨S1, z1, hx, h7, hp⟩ := bring_eq N hN hI
  have hD := hx.ok
  have ha := hx.a
  have m12 : mc csF 12 0 = true := mF (by decide) (by decide)
  have m30 : mc csF 30 0 = true := mF (by decide) (by decide)
  obtain ⟨g, g1, g2, g3, g4⟩ := hp.cells hx.2
  obtain ⟨Z, h, y1, y2, y3, y4, y5, y6⟩ := X9_finds_eq N hN hx.mx
  have eh : ∀ i, h i = g i := best_one hD y2 g1
  have ehg : h = g := funext eh
  subst ehg
  have hxZ := hx.mx.sub y6 (by decide)
  have haZ := hxZ.a
  have hc : rg (nI (dC S 0 0 1)) 0 7 := nI_rg (by omega) (by omega) (by omega)
  have sh := btw_sh (a := a) hc
  have ko : ∀ k, btw 0 k (nI (dC S 0 0 1) - 1) → ∃ n : Nat, n < 7 ∧ n < dC S 0 0 1 ∧ k = nI n := fun k hk => by
    obtain ⟨n, a1, a2, a3⟩ := btw_ord hc hk
    rw [nI_toInt (by omega)] at a2
    exact ⟨n, a1, by omega, a3⟩
  have isO : ∀ k, f_X8_isOrder csF N k S1 = some (bif_ (btw 0 k (nI (dC S 0 0 1) - 1)) 1 0, S1) := fun k => by
    rw [X8_isOrder_eq N k S1 (by rw [ha.2.2.1]; exact hc), ha.2.2.1]
  -- the other's answer keeps all
  have fin : ∀ r Z2, f_X9_best csF N a S1 = some (r, Z2) → Inv Z2 := fun r Z2 e => by
    have m2 : Md ml_X9_best S1 Z2 := md_X9_best _ _ _ _ _ _ e
    exact (hx.sub m2 (by decide)).inv (Or.inr ⟨by rw [m2.gi _ _ _ rfl]; exact h7, PlanOk_md m2 rfl rfl rfl (fun _ => rfl) (fun _ _ => rfl) (fun _ _ => rfl) (fun _ _ => rfl) (fun _ _ => rfl) (fun _ _ => rfl) (fun _ _ => rfl) (fun _ _ => rfl) hp⟩)
  have suf : (∃ r Z2, f_X8_best csF N a S = some (r, S1) ∧ f_X9_best csF N a S1 = some (r, Z2)) → ∃ r S1 S2, f_X8_best csF N a S = some (r, S1) ∧ f_X9_best csF N a S1 = some (r, S2) ∧ Inv S2 := by
    rintro ⟨r, Z2, e1, e2⟩
    exact ⟨r, S1, Z2, e1, e2, fin r Z2 e2⟩
  apply suf
  by_cases h1 : btw 0 (a - 10) (nI (dC S 0 0 1) - 1)
  · obtain ⟨k, k1, k2, k3⟩ := ko _ h1
    have hA := sh.1.mp h1
    have ne0 : ¬ a = 0 := fun e => by rw [e] at hA; exact absurd hA.1 (by decide)
    have ne1 : ¬ a = 1 := fun e => by rw [e] at hA; exact absurd hA.1 (by decide)
    refine ⟨gvI (h k), Z, ?_, ?_⟩
    · rw [f_X8_best, mF (by decide) (by decide), ck_t, z1, ob_s, isO, ob_s, if_bif, bif_t _ _ h1, m12, ck_t, mF (by decide) (by decide), ck_t, k3, inb_k k1 (by decide), ck_t, cl_k (by omega), (g4 k k1).1]
    · rw [f_X9_best, m30, ck_t, y1, ob_s, if_neg ne0, if_neg ne1, haZ.2.2.2.1, X9_isIn_eq, ob_s, if_bif, bif_t _ _ hA, mF (by decide) (by decide), ck_t, k3, inb_k k1 (by decide), ck_t, cl_k (by omega), y5 k k2]
  · have hA : ¬ btw 10 a (9 + nI (dC S 0 0 1)) := fun x => h1 (sh.1.mpr x)
    by_cases h2 : btw 0 (a - 20) (nI (dC S 0 0 1) - 1)
    · obtain ⟨k, k1, k2, k3⟩ := ko _ h2
      have hA2 := sh.2.mp h2
      have ne0 : ¬ a = 0 := fun e => by rw [e] at hA2; exact absurd hA2.1 (by decide)
      have ne1 : ¬ a = 1 := fun e => by rw [e] at hA2; exact absurd hA2.1 (by decide)
      have eC : f_X8_best csF N a S = some (gi S1 13 1 k, S1) := by
        rw [f_X8_best, mF (by decide) (by decide), ck_t, z1, ob_s, isO, ob_s, if_bif, bif_f _ _ h1, isO, ob_s, if_bif, bif_t _ _ h2, m12, ck_t, mF (by decide) (by decide), ck_t, k3, inb_k k1 (by decide), ck_t, cl_k (by omega)]
      have eM : f_X9_best csF N a S1 = (if gvI (h k) = -1 then some (-1, Z) else ob (f_X9_setOf csF N (gvI (h k)) Z) (fun r20 S21 => ob (f_X9_does csF N (gvI (h k)) r20 S21) (fun r23 S24 => if r23 = 0 then some (-1, S24) else some (gi S24 31 21 k, S24)))) := by
        rw [f_X9_best, m30, ck_t, y1, ob_s, if_neg ne0, if_neg ne1, haZ.2.2.2.1, X9_isIn_eq, ob_s, if_bif, bif_f _ _ hA, X9_isIn_eq, ob_s, haZ.2.2.2.1, if_bif, bif_t _ _ hA2, mF (by decide) (by decide), ck_t, k3, inb_k k1 (by decide), ck_t, cl_k (by omega), y5 k k2, ck_t, ck_t, mF (by decide) (by decide)]
        simp only [ck_t]
      rw [eC, eM]
      rcases (g4 k k1).2 with ⟨q1, q2, -⟩ | ⟨q1, wk, hn, q2, q3, -⟩
      · exact ⟨-1, Z, by rw [q2], by rw [if_pos (gvI_n1.mpr q1)]⟩
      · obtain ⟨Z2, x1, x2⟩ := does_best N (by omega) hxZ y2.1 q1
        refine ⟨nI wk, Z2, by rw [q3], ?_⟩
        rw [if_neg (fun x => gvI_n1.mp x q1)]
        have eg : gvI (h k) = nI (h k) := by unfold gvI; rw [if_pos q1]
        rw [eg, setOf_eq N (by omega) hxZ.sx (cand_way y2.1) q1 y5, ob_s, x1, ob_s, if_neg (by decide), x2 wk hn q2]
    · have hA2 : ¬ btw 20 a (19 + nI (dC S 0 0 1)) := fun x => h2 (sh.2.mpr x)
      have eC : f_X8_best csF N a S = (if a = 0 then some (gi S1 12 0 0, S1) else if a = 1 then some (gi S1 12 0 1, S1) else some (-1, S1)) := by
        rw [f_X8_best, mF (by decide) (by decide), ck_t, z1, ob_s, isO, ob_s, if_bif, bif_f _ _ h1, isO, ob_s, if_bif, bif_f _ _ h2, m12, ck_t, ck_t]
      have eM : f_X9_best csF N a S1 = (if a = 0 then some (gi Z 30 0 42, Z) else if a = 1 then some (gi Z 30 0 43, Z) else some (-1, Z)) := by
        rw [f_X9_best, m30, ck_t, y1, ob_s, haZ.2.2.2.1, X9_isIn_eq, ob_s, if_bif, bif_f _ _ hA, X9_isIn_eq, ob_s, haZ.2.2.2.1, if_bif, bif_f _ _ hA2]
      rw [eC, eM]
      by_cases e0 : a = 0
      · rw [if_pos e0, if_pos e0]
        exact ⟨_, Z, by rw [g2], by rw [y3]⟩
      · rw [if_neg e0, if_neg e0]
        by_cases e1 : a = 1
        · rw [if_pos e1, if_pos e1]
          exact ⟨_, Z, by rw [g3], by rw [y4]⟩
        · rw [if_neg e1, if_neg e1]
          exact ⟨_, Z, rfl, rfl⟩
