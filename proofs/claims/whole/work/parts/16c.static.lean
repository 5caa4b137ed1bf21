/-! ===== what the Statement gives of the start ===== -/
set_option maxHeartbeats 4000000 in
set_option maxRecDepth 100000 in
theorem gz_0 {p : Program} {s : State} {m : MethodId} {meth : Method} {c : Code} {b L : Nat} {xs : Nat → Int32} (C0 : lw_At p s m meth c b L xs) : ∃ (tk k1 k2 : Nat → Nat) (fm : Nat), gZ csF (adF s.heap.size tk k1 k2 fm) s := by
  obtain ⟨hx, hb, hr, hml, hown, hts, hX, hbl, hlocks, hgv⟩ := id C0
  have hs := flat_of_before _ hgv
  have hA : ∀ a : Nat, a < s.heap.size → ¬ (fun q : Nat => s.heap.size ≤ q) a := fun a h => Nat.not_le.mpr h
  obtain ⟨t0, ht0, hT0⟩ := va_Tof (args := #[Value.ref b]) (s := s) (tm := .static "GlassValley" "OWN_FORM" "[I") (ty := .int) (N := 4) (f := fun j => .int (sVl 0 j)) (A := fun q : Nat => s.heap.size ≤ q) (by decide) (hs _ (by decide +kernel)) (va_eqt (hs _ (by decide +kernel))) (fun j hj => by
    match j, hj with
    | 0, _ => exact va_eqt (hs _ (by decide +kernel))
    | 1, _ => exact va_eqt (hs _ (by decide +kernel))
    | 2, _ => exact va_eqt (hs _ (by decide +kernel))
    | 3, _ => exact va_eqt (hs _ (by decide +kernel))
    | j + 4, hj => omega) hA
  have hZ0 : va_Z RX8 "OWN_FORM" "[I" (.ref t0) (fun q : Nat => s.heap.size ≤ q) s s.heap := va_Zof (hts _ (List.mem_of_getElem? (i := 533) (by decide +kernel))) (hts _ (List.mem_of_getElem? (i := 40) (by decide +kernel))) ht0 hA
  obtain ⟨t1, ht1, hT1⟩ := va_Tof (args := #[Value.ref b]) (s := s) (tm := .static "GlassValley" "LEND_FORM" "[I") (ty := .int) (N := 6) (f := fun j => .int (sVl 1 j)) (A := fun q : Nat => s.heap.size ≤ q) (by decide) (hs _ (by decide +kernel)) (va_eqt (hs _ (by decide +kernel))) (fun j hj => by
    match j, hj with
    | 0, _ => exact va_eqt (hs _ (by decide +kernel))
    | 1, _ => exact va_eqt (hs _ (by decide +kernel))
    | 2, _ => exact va_eqt (hs _ (by decide +kernel))
    | 3, _ => exact va_eqt (hs _ (by decide +kernel))
    | 4, _ => exact va_eqt (hs _ (by decide +kernel))
    | 5, _ => exact va_eqt (hs _ (by decide +kernel))
    | j + 6, hj => omega) hA
  have hZ1 : va_Z RX8 "LEND_FORM" "[I" (.ref t1) (fun q : Nat => s.heap.size ≤ q) s s.heap := va_Zof (hts _ (List.mem_of_getElem? (i := 535) (by decide +kernel))) (hts _ (List.mem_of_getElem? (i := 40) (by decide +kernel))) ht1 hA
  obtain ⟨t2, ht2, hT2⟩ := va_Tof (args := #[Value.ref b]) (s := s) (tm := .static "GlassValley" "BAR_FORM" "[I") (ty := .int) (N := 6) (f := fun j => .int (sVl 2 j)) (A := fun q : Nat => s.heap.size ≤ q) (by decide) (hs _ (by decide +kernel)) (va_eqt (hs _ (by decide +kernel))) (fun j hj => by
    match j, hj with
    | 0, _ => exact va_eqt (hs _ (by decide +kernel))
    | 1, _ => exact va_eqt (hs _ (by decide +kernel))
    | 2, _ => exact va_eqt (hs _ (by decide +kernel))
    | 3, _ => exact va_eqt (hs _ (by decide +kernel))
    | 4, _ => exact va_eqt (hs _ (by decide +kernel))
    | 5, _ => exact va_eqt (hs _ (by decide +kernel))
    | j + 6, hj => omega) hA
  have hZ2 : va_Z RX8 "BAR_FORM" "[I" (.ref t2) (fun q : Nat => s.heap.size ≤ q) s s.heap := va_Zof (hts _ (List.mem_of_getElem? (i := 537) (by decide +kernel))) (hts _ (List.mem_of_getElem? (i := 40) (by decide +kernel))) ht2 hA
  obtain ⟨t3, ht3, hT3⟩ := va_Tof (args := #[Value.ref b]) (s := s) (tm := .static "GlassValley" "FREE_FORM" "[I") (ty := .int) (N := 2) (f := fun j => .int (sVl 3 j)) (A := fun q : Nat => s.heap.size ≤ q) (by decide) (hs _ (by decide +kernel)) (va_eqt (hs _ (by decide +kernel))) (fun j hj => by
    match j, hj with
    | 0, _ => exact va_eqt (hs _ (by decide +kernel))
    | 1, _ => exact va_eqt (hs _ (by decide +kernel))
    | j + 2, hj => omega) hA
  have hZ3 : va_Z RX8 "FREE_FORM" "[I" (.ref t3) (fun q : Nat => s.heap.size ≤ q) s s.heap := va_Zof (hts _ (List.mem_of_getElem? (i := 539) (by decide +kernel))) (hts _ (List.mem_of_getElem? (i := 40) (by decide +kernel))) ht3 hA
  obtain ⟨t4, ht4, hT4⟩ := va_Tof (args := #[Value.ref b]) (s := s) (tm := .static "GlassValley" "ORDER_UNITS" "[I") (ty := .int) (N := 7) (f := fun j => .int (sVl 4 j)) (A := fun q : Nat => s.heap.size ≤ q) (by decide) (hs _ (by decide +kernel)) (va_eqt (hs _ (by decide +kernel))) (fun j hj => by
    match j, hj with
    | 0, _ => exact va_eqt (hs _ (by decide +kernel))
    | 1, _ => exact va_eqt (hs _ (by decide +kernel))
    | 2, _ => exact va_eqt (hs _ (by decide +kernel))
    | 3, _ => exact va_eqt (hs _ (by decide +kernel))
    | 4, _ => exact va_eqt (hs _ (by decide +kernel))
    | 5, _ => exact va_eqt (hs _ (by decide +kernel))
    | 6, _ => exact va_eqt (hs _ (by decide +kernel))
    | j + 7, hj => omega) hA
  have hZ4 : va_Z RX8 "ORDER_UNITS" "[I" (.ref t4) (fun q : Nat => s.heap.size ≤ q) s s.heap := va_Zof (hts _ (List.mem_of_getElem? (i := 626) (by decide +kernel))) (hts _ (List.mem_of_getElem? (i := 40) (by decide +kernel))) ht4 hA
  obtain ⟨k1, k2, hS, hE⟩ := vk_Sof (args := #[Value.ref b]) (s := s) (N := 8) (tm := fun i => .string RX7 (ixK.getD i 0)) (len := lenK) (byt := bytK) (A := fun q : Nat => s.heap.size ≤ q)
    (by decide)
    (fun i hi => by
      match i, hi with
      | 0, _ => exact (hs _ (by decide +kernel))
      | 1, _ => exact (hs _ (by decide +kernel))
      | 2, _ => exact (hs _ (by decide +kernel))
      | 3, _ => exact (hs _ (by decide +kernel))
      | 4, _ => exact (hs _ (by decide +kernel))
      | 5, _ => exact (hs _ (by decide +kernel))
      | 6, _ => exact (hs _ (by decide +kernel))
      | 7, _ => exact (hs _ (by decide +kernel))
      | i + 8, hi => omega)
    (fun i hi => by
      match i, hi with
      | 0, _ => exact (hs _ (by decide +kernel))
      | 1, _ => exact (hs _ (by decide +kernel))
      | 2, _ => exact (hs _ (by decide +kernel))
      | 3, _ => exact (hs _ (by decide +kernel))
      | 4, _ => exact (hs _ (by decide +kernel))
      | 5, _ => exact (hs _ (by decide +kernel))
      | 6, _ => exact (hs _ (by decide +kernel))
      | 7, _ => exact (hs _ (by decide +kernel))
      | i + 8, hi => omega)
    (fun i hi => by
      match i, hi with
      | 0, _ => exact (hs _ (by decide +kernel))
      | 1, _ => exact (hs _ (by decide +kernel))
      | 2, _ => exact (hs _ (by decide +kernel))
      | 3, _ => exact (hs _ (by decide +kernel))
      | 4, _ => exact (hs _ (by decide +kernel))
      | 5, _ => exact (hs _ (by decide +kernel))
      | 6, _ => exact (hs _ (by decide +kernel))
      | 7, _ => exact (hs _ (by decide +kernel))
      | i + 8, hi => omega)
    (fun i hi => by
      match i, hi with
      | 0, _ => exact (hs _ (by decide +kernel))
      | 1, _ => exact (hs _ (by decide +kernel))
      | 2, _ => exact (hs _ (by decide +kernel))
      | 3, _ => exact (hs _ (by decide +kernel))
      | 4, _ => exact (hs _ (by decide +kernel))
      | 5, _ => exact (hs _ (by decide +kernel))
      | 6, _ => exact (hs _ (by decide +kernel))
      | 7, _ => exact (hs _ (by decide +kernel))
      | i + 8, hi => omega)
    (fun i hi j hj => by
      match i, hi, j, hj with
      | 0, _, 0, _ => exact (hs _ (by decide +kernel))
      | 0, _, 1, _ => exact (hs _ (by decide +kernel))
      | 0, _, 2, _ => exact (hs _ (by decide +kernel))
      | 0, _, j + 3, hj => exact absurd hj (by show ¬ j + 3 < 3; omega)
      | 1, _, 0, _ => exact (hs _ (by decide +kernel))
      | 1, _, 1, _ => exact (hs _ (by decide +kernel))
      | 1, _, j + 2, hj => exact absurd hj (by show ¬ j + 2 < 2; omega)
      | 2, _, 0, _ => exact (hs _ (by decide +kernel))
      | 2, _, 1, _ => exact (hs _ (by decide +kernel))
      | 2, _, 2, _ => exact (hs _ (by decide +kernel))
      | 2, _, 3, _ => exact (hs _ (by decide +kernel))
      | 2, _, j + 4, hj => exact absurd hj (by show ¬ j + 4 < 4; omega)
      | 3, _, 0, _ => exact (hs _ (by decide +kernel))
      | 3, _, 1, _ => exact (hs _ (by decide +kernel))
      | 3, _, j + 2, hj => exact absurd hj (by show ¬ j + 2 < 2; omega)
      | 4, _, 0, _ => exact (hs _ (by decide +kernel))
      | 4, _, 1, _ => exact (hs _ (by decide +kernel))
      | 4, _, 2, _ => exact (hs _ (by decide +kernel))
      | 4, _, 3, _ => exact (hs _ (by decide +kernel))
      | 4, _, 4, _ => exact (hs _ (by decide +kernel))
      | 4, _, j + 5, hj => exact absurd hj (by show ¬ j + 5 < 5; omega)
      | 5, _, 0, _ => exact (hs _ (by decide +kernel))
      | 5, _, 1, _ => exact (hs _ (by decide +kernel))
      | 5, _, 2, _ => exact (hs _ (by decide +kernel))
      | 5, _, j + 3, hj => exact absurd hj (by show ¬ j + 3 < 3; omega)
      | 6, _, 0, _ => exact (hs _ (by decide +kernel))
      | 6, _, 1, _ => exact (hs _ (by decide +kernel))
      | 6, _, 2, _ => exact (hs _ (by decide +kernel))
      | 6, _, 3, _ => exact (hs _ (by decide +kernel))
      | 6, _, j + 4, hj => exact absurd hj (by show ¬ j + 4 < 4; omega)
      | 7, _, 0, _ => exact (hs _ (by decide +kernel))
      | 7, _, 1, _ => exact (hs _ (by decide +kernel))
      | 7, _, 2, _ => exact (hs _ (by decide +kernel))
      | 7, _, 3, _ => exact (hs _ (by decide +kernel))
      | 7, _, j + 4, hj => exact absurd hj (by show ¬ j + 4 < 4; omega)
      | i + 8, hi, _, _ => omega)
    (fun i j hi hj hij => by
      match i, hi, j, hj, hij with
      | 0, _, 0, _, h => exact absurd rfl h
      | 0, _, 1, _, _ => exact Or.inl (hs _ (by decide +kernel))
      | 0, _, 2, _, _ => exact Or.inl (hs _ (by decide +kernel))
      | 0, _, 3, _, _ => exact Or.inl (hs _ (by decide +kernel))
      | 0, _, 4, _, _ => exact Or.inl (hs _ (by decide +kernel))
      | 0, _, 5, _, _ => exact Or.inl (hs _ (by decide +kernel))
      | 0, _, 6, _, _ => exact Or.inl (hs _ (by decide +kernel))
      | 0, _, 7, _, _ => exact Or.inl (hs _ (by decide +kernel))
      | 0, _, j + 8, hj, _ => omega
      | 1, _, 0, _, _ => exact Or.inr (hs _ (by decide +kernel))
      | 1, _, 1, _, h => exact absurd rfl h
      | 1, _, 2, _, _ => exact Or.inl (hs _ (by decide +kernel))
      | 1, _, 3, _, _ => exact Or.inl (hs _ (by decide +kernel))
      | 1, _, 4, _, _ => exact Or.inl (hs _ (by decide +kernel))
      | 1, _, 5, _, _ => exact Or.inl (hs _ (by decide +kernel))
      | 1, _, 6, _, _ => exact Or.inl (hs _ (by decide +kernel))
      | 1, _, 7, _, _ => exact Or.inl (hs _ (by decide +kernel))
      | 1, _, j + 8, hj, _ => omega
      | 2, _, 0, _, _ => exact Or.inr (hs _ (by decide +kernel))
      | 2, _, 1, _, _ => exact Or.inr (hs _ (by decide +kernel))
      | 2, _, 2, _, h => exact absurd rfl h
      | 2, _, 3, _, _ => exact Or.inl (hs _ (by decide +kernel))
      | 2, _, 4, _, _ => exact Or.inl (hs _ (by decide +kernel))
      | 2, _, 5, _, _ => exact Or.inl (hs _ (by decide +kernel))
      | 2, _, 6, _, _ => exact Or.inl (hs _ (by decide +kernel))
      | 2, _, 7, _, _ => exact Or.inl (hs _ (by decide +kernel))
      | 2, _, j + 8, hj, _ => omega
      | 3, _, 0, _, _ => exact Or.inr (hs _ (by decide +kernel))
      | 3, _, 1, _, _ => exact Or.inr (hs _ (by decide +kernel))
      | 3, _, 2, _, _ => exact Or.inr (hs _ (by decide +kernel))
      | 3, _, 3, _, h => exact absurd rfl h
      | 3, _, 4, _, _ => exact Or.inl (hs _ (by decide +kernel))
      | 3, _, 5, _, _ => exact Or.inl (hs _ (by decide +kernel))
      | 3, _, 6, _, _ => exact Or.inl (hs _ (by decide +kernel))
      | 3, _, 7, _, _ => exact Or.inl (hs _ (by decide +kernel))
      | 3, _, j + 8, hj, _ => omega
      | 4, _, 0, _, _ => exact Or.inr (hs _ (by decide +kernel))
      | 4, _, 1, _, _ => exact Or.inr (hs _ (by decide +kernel))
      | 4, _, 2, _, _ => exact Or.inr (hs _ (by decide +kernel))
      | 4, _, 3, _, _ => exact Or.inr (hs _ (by decide +kernel))
      | 4, _, 4, _, h => exact absurd rfl h
      | 4, _, 5, _, _ => exact Or.inl (hs _ (by decide +kernel))
      | 4, _, 6, _, _ => exact Or.inl (hs _ (by decide +kernel))
      | 4, _, 7, _, _ => exact Or.inl (hs _ (by decide +kernel))
      | 4, _, j + 8, hj, _ => omega
      | 5, _, 0, _, _ => exact Or.inr (hs _ (by decide +kernel))
      | 5, _, 1, _, _ => exact Or.inr (hs _ (by decide +kernel))
      | 5, _, 2, _, _ => exact Or.inr (hs _ (by decide +kernel))
      | 5, _, 3, _, _ => exact Or.inr (hs _ (by decide +kernel))
      | 5, _, 4, _, _ => exact Or.inr (hs _ (by decide +kernel))
      | 5, _, 5, _, h => exact absurd rfl h
      | 5, _, 6, _, _ => exact Or.inl (hs _ (by decide +kernel))
      | 5, _, 7, _, _ => exact Or.inl (hs _ (by decide +kernel))
      | 5, _, j + 8, hj, _ => omega
      | 6, _, 0, _, _ => exact Or.inr (hs _ (by decide +kernel))
      | 6, _, 1, _, _ => exact Or.inr (hs _ (by decide +kernel))
      | 6, _, 2, _, _ => exact Or.inr (hs _ (by decide +kernel))
      | 6, _, 3, _, _ => exact Or.inr (hs _ (by decide +kernel))
      | 6, _, 4, _, _ => exact Or.inr (hs _ (by decide +kernel))
      | 6, _, 5, _, _ => exact Or.inr (hs _ (by decide +kernel))
      | 6, _, 6, _, h => exact absurd rfl h
      | 6, _, 7, _, _ => exact Or.inl (hs _ (by decide +kernel))
      | 6, _, j + 8, hj, _ => omega
      | 7, _, 0, _, _ => exact Or.inr (hs _ (by decide +kernel))
      | 7, _, 1, _, _ => exact Or.inr (hs _ (by decide +kernel))
      | 7, _, 2, _, _ => exact Or.inr (hs _ (by decide +kernel))
      | 7, _, 3, _, _ => exact Or.inr (hs _ (by decide +kernel))
      | 7, _, 4, _, _ => exact Or.inr (hs _ (by decide +kernel))
      | 7, _, 5, _, _ => exact Or.inr (hs _ (by decide +kernel))
      | 7, _, 6, _, _ => exact Or.inr (hs _ (by decide +kernel))
      | 7, _, 7, _, h => exact absurd rfl h
      | 7, _, j + 8, hj, _ => omega
      | i + 8, hi, _, _, _ => omega) hA
  have hC : va_Z "java/lang/String" "COMPACT_STRINGS" "Z" (.int 1) (fun q : Nat => s.heap.size ≤ q) s s.heap := va_Zof (hts _ (List.mem_of_getElem? (i := 467) (by decide +kernel))) (hts _ (List.mem_of_getElem? (i := 50) (by decide +kernel))) (va_eqi (hs _ (by decide +kernel))) hA
  have hF : va_Zq "jdk/internal/util/Preconditions" "SIOOBE_FORMATTER" "Ljava/util/function/BiFunction;" (fun q : Nat => s.heap.size ≤ q) s s.heap := va_Zqof (hts _ (List.mem_of_getElem? (i := 483) (by decide +kernel))) (hts _ (List.mem_of_getElem? (i := 52) (by decide +kernel))) (hs _ (by decide +kernel)) hA
  obtain ⟨fm, hF⟩ : ∃ fm : Nat, va_Z "jdk/internal/util/Preconditions" "SIOOBE_FORMATTER" "Ljava/util/function/BiFunction;" (va_rf (if fm = 0 then none else some (fm - 1))) (fun q : Nat => s.heap.size ≤ q) s s.heap := by
    rcases hF with h | ⟨t, h⟩
    · exact ⟨0, h⟩
    · exact ⟨t + 1, h⟩
  have hR : ∀ i, i < 8 → vk_R RX7 (ixK.getD i 0) (txK.getD i "") (k1 i) s := by
    intro i hi
    match i, hi with
    | 0, _ => exact vk_R.of (A := #[Value.ref b]) (hts _ (List.mem_of_getElem? (i := 453) (by decide +kernel))) (hE 0 (by decide))
    | 1, _ => exact vk_R.of (A := #[Value.ref b]) (hts _ (List.mem_of_getElem? (i := 506) (by decide +kernel))) (hE 1 (by decide))
    | 2, _ => exact vk_R.of (A := #[Value.ref b]) (hts _ (List.mem_of_getElem? (i := 507) (by decide +kernel))) (hE 2 (by decide))
    | 3, _ => exact vk_R.of (A := #[Value.ref b]) (hts _ (List.mem_of_getElem? (i := 508) (by decide +kernel))) (hE 3 (by decide))
    | 4, _ => exact vk_R.of (A := #[Value.ref b]) (hts _ (List.mem_of_getElem? (i := 509) (by decide +kernel))) (hE 4 (by decide))
    | 5, _ => exact vk_R.of (A := #[Value.ref b]) (hts _ (List.mem_of_getElem? (i := 510) (by decide +kernel))) (hE 5 (by decide))
    | 6, _ => exact vk_R.of (A := #[Value.ref b]) (hts _ (List.mem_of_getElem? (i := 511) (by decide +kernel))) (hE 6 (by decide))
    | 7, _ => exact vk_R.of (A := #[Value.ref b]) (hts _ (List.mem_of_getElem? (i := 512) (by decide +kernel))) (hE 7 (by decide))
    | i + 8, hi => omega
  refine ⟨fun k => match k with
    | 0 => t0
    | 1 => t1
    | 2 => t2
    | 3 => t3
    | _ => t4, k1, k2, fm, fun k hk => ?_, fun w hw => va_Nw.of (nw_tab w hw) (hts w ((by decide +kernel : ∀ w ∈ nwl, w ∈ lw_tbl) w hw)), hS.narrow (fun _ h => gA_ge h), hR, hC.narrow (fun _ h => gA_ge h), hF.narrow (fun _ h => gA_ge h)⟩
  match k, hk with
  | 0, _ => exact ⟨hZ0.narrow (fun _ h => gA_ge h), hT0.narrow (fun _ h => gA_ge h)⟩
  | 1, _ => exact ⟨hZ1.narrow (fun _ h => gA_ge h), hT1.narrow (fun _ h => gA_ge h)⟩
  | 2, _ => exact ⟨hZ2.narrow (fun _ h => gA_ge h), hT2.narrow (fun _ h => gA_ge h)⟩
  | 3, _ => exact ⟨hZ3.narrow (fun _ h => gA_ge h), hT3.narrow (fun _ h => gA_ge h)⟩
  | 4, _ => exact ⟨hZ4.narrow (fun _ h => gA_ge h), hT4.narrow (fun _ h => gA_ge h)⟩
  | k + 5, hk => omega
theorem RA_arr {s : State} {cA : ClassId} {k : Class} {comp : ClassId} {ty : FieldType} (h2 : s.vm.classes[cA]? = some k) (h3 : k.kind = .array comp ty) : ArrOfT s cA ty := fun n z => ⟨fun k h => (by cases h), k, h2, comp, h3⟩
set_option maxHeartbeats 4000000 in
set_option maxRecDepth 100000 in
theorem k_0 {s : State} {b : Nat} (hts : ∀ w ∈ lw_tbl, w.before #[Value.ref b] s = true) : ∃ (D : va_G) (cy : Nat → ClassId), va_K D vwCl (tyl cy) s ∧ zB cy s := by
  have hg : ∀ w ∈ gw, w.before #[Value.ref b] s = true := fun w hw => hts w (List.mem_filter.mp hw).1
  obtain ⟨c0, i0, K0⟩ := u_known (n := 2) hg inG_X0 (hg _ ka_X0)
  obtain ⟨c1, i1, K1⟩ := u_known (n := 5) hg inG_X1 (hg _ ka_X1)
  obtain ⟨c2, i2, K2⟩ := u_known (n := 4) hg inG_X2 (hg _ ka_X2)
  obtain ⟨c3, i3, K3⟩ := u_known (n := 3) hg inG_X3 (hg _ ka_X3)
  obtain ⟨c4, i4, K4⟩ := u_known (n := 15) hg inG_X4 (hg _ ka_X4)
  obtain ⟨c5, i5, K5⟩ := u_known (n := 3) hg inG_X5 (hg _ ka_X5)
  obtain ⟨c6, i6, K6⟩ := u_known (n := 11) hg inG_X6 (hg _ ka_X6)
  obtain ⟨c7, i7, K7⟩ := u_known (n := 6) hg inG_X7 (hg _ ka_X7)
  obtain ⟨c8, i8, K8⟩ := u_known (n := 11) hg inG_X8 (hg _ ka_X8)
  obtain ⟨c9, i9, K9⟩ := u_known (n := 44) hg inG_X9 (hg _ ka_X9)
  obtain ⟨aI, kI, pI, fI, gI, hI⟩ := Cond.arrayClass_spec (hg _ kr_int)
  obtain ⟨aB, kB, pB, fB, gB, hB⟩ := Cond.arrayClass_spec (hg _ kr_byte)
  obtain ⟨aJ, kJ, pJ, fJ, gJ, hJ⟩ := Cond.arrayClass_spec (hg _ kr_long)
  obtain ⟨aZ, kZ, pZ, fZ, gZ, hZ⟩ := Cond.arrayClass_spec (hg _ kr_boolean)
  have wF := hts (.arrayOver (.object "GlassValley$Family")) (List.mem_of_getElem? (i := 64) (by decide +kernel))
  obtain ⟨pF, aF, kF, qF, -, gF, hF, fF⟩ := Cond.arrayOver_spec wF
  have wP := hts (.arrayOver (.object "GlassValley$Pattern")) (List.mem_of_getElem? (i := 66) (by decide +kernel))
  obtain ⟨pP, aP, kP, qP, -, gP, hP, fP⟩ := Cond.arrayOver_spec wP
  have wO := hts (.arrayOver (.object "GlassValley$ShipOrder")) (List.mem_of_getElem? (i := 68) (by decide +kernel))
  obtain ⟨pO, aO, kO, qO, -, gO, hO, fO⟩ := Cond.arrayOver_spec wO
  have w7 := hts (.arrayOver (.array .int)) (List.mem_of_getElem? (i := 148) (by decide +kernel))
  obtain ⟨p7, a7, k7, q7, -, g7, h7, f7⟩ := arrayOverA_spec w7
  have e7 : p7 = aI := Option.some.inj (q7.symm.trans fI)
  refine ⟨(fun k => match k with
    | 0 => c0
    | 1 => c1
    | 2 => c2
    | 3 => c3
    | 4 => c4
    | 5 => c5
    | 6 => c6
    | 7 => c7
    | 8 => c8
    | _ => c9, fun k => match k with
    | 0 => i0
    | 1 => i1
    | 2 => i2
    | 3 => i3
    | 4 => i4
    | 5 => i5
    | 6 => i6
    | 7 => i7
    | 8 => i8
    | _ => i9), fun k => match k with
    | 0 => aI
    | 1 => aB
    | 2 => aJ
    | 3 => aZ
    | 4 => aF
    | 5 => aP
    | 6 => aO
    | _ => a7, ⟨fun k q hq => ?_, fun k q hq => ?_⟩, va_AO.of wF, va_AO.of wP, va_AO.of wO, fun w hw => va_Nw.of (nwc_tab w hw) (hts w ((by decide +kernel : ∀ w ∈ nwc, w ∈ lw_tbl) w hw)), k7, g7, by rw [h7, e7]; rfl⟩
  · match k, hq with
    | 0, hq => cases hq; exact K0
    | 1, hq => cases hq; exact K1
    | 2, hq => cases hq; exact K2
    | 3, hq => cases hq; exact K3
    | 4, hq => cases hq; exact K4
    | 5, hq => cases hq; exact K5
    | 6, hq => cases hq; exact K6
    | 7, hq => cases hq; exact K7
    | 8, hq => cases hq; exact K8
    | 9, hq => cases hq; exact K9
    | k + 10, hq => cases hq
  · match k, hq with
    | 0, hq => cases hq; exact ⟨RA_arr gI hI, fI⟩
    | 1, hq => cases hq; exact ⟨RA_arr gB hB, fB⟩
    | 2, hq => cases hq; exact ⟨RA_arr gJ hJ, fJ⟩
    | 3, hq => cases hq; exact ⟨RA_arr gZ hZ, fZ⟩
    | 4, hq => cases hq; exact ⟨RA_arr gF hF, kF, pF, gF, hF, qF, fF⟩
    | 5, hq => cases hq; exact ⟨RA_arr gP hP, kP, pP, gP, hP, qP, fP⟩
    | 6, hq => cases hq; exact ⟨RA_arr gO hO, kO, pO, gO, hO, qO, fO⟩
    | 7, hq => cases hq; exact ⟨RA_arr g7 h7, f7⟩
    | k + 8, hq => cases hq
