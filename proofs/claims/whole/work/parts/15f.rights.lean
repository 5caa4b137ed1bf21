/-! ===== Rights ===== -/
def S0R : HS := (fun _ _ _ => 0, fun _ _ _ => 0)
theorem vpc_i {D : va_G} {cl : List vw_C} {a n : Nat} {cA : ClassId} {f g : Nat → Int32} {H : Heap} (e : ∀ j, j < n → f j = g j) (h : va_at D cl (a, .inl (cA, n, .inl f)) H) : va_at D cl (a, .inl (cA, n, .inl g)) H := by
  have x : vp_cell cA (n, .inl f) = vp_cell cA (n, .inl g) := by
    rw [vp_cell_i, vp_cell_i]
    unfold arrV
    congr 2
    funext j
    show Value.int (f j) = Value.int (g j)
    rw [e j j.isLt]
  show H[a]? = some (vp_cell cA (n, .inl g))
  rw [← x]
  exact h
theorem vpc_l {D : va_G} {cl : List vw_C} {a n : Nat} {cA : ClassId} {f g : Nat → Int64} {H : Heap} (e : ∀ j, j < n → f j = g j) (h : va_at D cl (a, .inl (cA, n, .inr (.inl f))) H) : va_at D cl (a, .inl (cA, n, .inr (.inl g))) H := by
  have x : vp_cell cA (n, .inr (.inl f)) = vp_cell cA (n, .inr (.inl g)) := by
    rw [vp_cell_l, vp_cell_l]
    unfold arrV
    congr 2
    funext j
    show Value.long (f j) = Value.long (g j)
    rw [e j j.isLt]
  show H[a]? = some (vp_cell cA (n, .inr (.inl g)))
  rw [← x]
  exact h
theorem csR_inj : ∀ i, i < 10 → ∀ j, j < 10 → offR (csR.getD i (0, 0)).1 (csR.getD i (0, 0)).2 = offR (csR.getD j (0, 0)).1 (csR.getD j (0, 0)).2 → i = j := by decide +kernel
theorem adR_ok (h : Nat) : AdOk csR (adR h) := by
  intro i j x y hx hy e
  have hi := (List.getElem?_eq_some_iff.mp hx).1
  have hj := (List.getElem?_eq_some_iff.mp hy).1
  have ex : csR.getD i (0, 0) = x := by rw [List.getD_eq_getElem?_getD, hx]; rfl
  have ey : csR.getD j (0, 0) = y := by rw [List.getD_eq_getElem?_getD, hy]; rfl
  refine csR_inj i hi j hj ?_
  rw [ex, ey]
  unfold adR at e
  omega
theorem fg_21 : ∀ j, j < 6 → (fgZ S0R).1 21 0 j = -1 := by decide +kernel
theorem fg_23 : ∀ i, i < 6 → ∀ j, j < 4 → (fgZ S0R).1 23 i j = -1 := by decide +kernel
theorem fg_24 : ∀ j, j < 6 → (fgZ S0R).2 24 0 j = 0 := by decide +kernel
theorem rt_f (h : Nat) : (fun j => some (h + 2 + 1 + j)) = fun j => some (adR h 23 (6 * 0 + j)) := by
  funext j
  show some _ = some (h + (3 + (6 * 0 + j)))
  congr 1
  omega
theorem rt_c0 {D : va_G} {cy : Nat → ClassId} {h : Nat} {H : Heap} (hP : va_P D vwCl (wB h (eRights0 cy h)) H) : va_P D vwCl (Wd csR cy (adR h) S0R) H := by
  intro k q hk
  obtain ⟨x, hx, rfl⟩ := wd_q hk
  have hm : x ∈ csR := List.mem_of_getElem? hx
  simp only [csR, List.mem_cons, List.not_mem_nil, or_false] at hm
  rcases hm with rfl | rfl | rfl | rfl | rfl | rfl | rfl | rfl | rfl | rfl
  · exact wB_get (k := 0) hP rfl
  · exact wB_get (k := 1) hP rfl
  · have g := wB_get (k := 2) hP rfl
    rw [rt_f] at g
    exact g
  · exact wB_get (k := 3) hP rfl
  · exact wB_get (k := 4) hP rfl
  · exact wB_get (k := 5) hP rfl
  · exact wB_get (k := 6) hP rfl
  · exact wB_get (k := 7) hP rfl
  · exact wB_get (k := 8) hP rfl
  · exact wB_get (k := 9) hP rfl
theorem rt_c1 {D : va_G} {cy : Nat → ClassId} {h : Nat} {H : Heap} (hP : va_P D vwCl (Wd csR cy (adR h) (fgZ S0R)) H) : va_P D vwCl (wB h (eRights cy h)) H := by
  refine wB_P (fun k e he => ?_)
  match k, he with
  | 0, he => cases he; have g := hP 0 _ (wd_i (x := (20, 0)) rfl); exact g
  | 1, he => cases he; have g := hP 1 _ (wd_i (x := (21, 0)) rfl); exact vpc_i fg_21 g
  | 2, he => cases he; have g := hP 2 _ (wd_i (x := (22, 0)) rfl); exact (congrArg (fun z => va_at D vwCl (h + 2, .inl (cy 7, 6, .inr (.inr (.inr (.inr z))))) H) (rt_f h)).mpr g
  | 3, he => cases he; have g := hP 3 _ (wd_i (x := (23, 0)) rfl); exact vpc_i (fg_23 0 (by decide)) g
  | 4, he => cases he; have g := hP 4 _ (wd_i (x := (23, 1)) rfl); exact vpc_i (fg_23 1 (by decide)) g
  | 5, he => cases he; have g := hP 5 _ (wd_i (x := (23, 2)) rfl); exact vpc_i (fg_23 2 (by decide)) g
  | 6, he => cases he; have g := hP 6 _ (wd_i (x := (23, 3)) rfl); exact vpc_i (fg_23 3 (by decide)) g
  | 7, he => cases he; have g := hP 7 _ (wd_i (x := (23, 4)) rfl); exact vpc_i (fg_23 4 (by decide)) g
  | 8, he => cases he; have g := hP 8 _ (wd_i (x := (23, 5)) rfl); exact vpc_i (fg_23 5 (by decide)) g
  | 9, he => cases he; have g := hP 9 _ (wd_i (x := (24, 0)) rfl); exact vpc_l fg_24 g
  | k + 10, he => simp [eRights] at he
def rmB_X5 : Room := { frames := 2, cells := 9, slots := 42, locals := 60 }
theorem mi_X5_init : MFI yX5_init cX5_init 1 0 := ⟨ki_X5_init, kn_X5, kc_X5_init, rfl, by decide +kernel⟩
set_option maxHeartbeats 4000000 in
set_option maxRecDepth 100000 in
theorem cb_X5_init {l : Launch} {D : va_G} {cy : Nat → ClassId} (h : Nat) : CtrB l yX5_init cX5_init 1 rmB_X5 D cy h [.ref h] (.inr (5, [.null, .null, .null])) (eRights cy h) 9 42 := by
  refine CtrB.of RX5 (plainFor_of_name (by decide)) rfl rfl [(0, .ref h)] rfl (Nat.le_of_ble_eq_true rfl) (fun p e s m below meth c B hi hr => ?_)
  refine b_aload_n B dX5_init_0 0 rfl rfl ?_
  refine b_obj B km_X5_3 (by decide) (Nat.le_of_ble_eq_true rfl) dX5_init_1 ?_
  refine b_aload_n B dX5_init_4 0 rfl rfl ?_
  refine b_bipush (v := (6 : Int32)) B dX5_init_5 (by decide) ?_
  refine b_newa (atype := .int) (ty := .int) (t := 0) (N' := 6) (a0 := (6, .inl (fun _ => 0))) (k := 1) B kr_int rfl rfl (fun _ => rfl) (by decide) (by decide) (by decide) ⟨by decide, by decide⟩ dX5_init_7 rfl ?_
  refine b_putF (k := 0) (j := 0) (E' := [.inr (5, [.ref (h + 1), .null, .null]), .inl (cy 0, 6, .inl (fun _ => 0))]) B hi rfl rfl rfl (by decide) (Nat.le_of_ble_eq_true rfl) inG_X5 tyX5_ok nmX5 rfl kf_X5_9 rfl rfl rfl rfl rfl dX5_init_9 ?_
  refine b_aload_n B dX5_init_12 0 rfl rfl ?_
  refine b_bipush (v := (6 : Int32)) B dX5_init_13 (by decide) ?_
  refine b_iconst (v := (4 : Int32)) B dX5_init_15 (by decide) ?_
  refine b_multi (a := 6) (b := 4) (k := 2) B kl2_X5 rfl rfl (by decide) (by decide) ⟨by decide, by decide⟩ dX5_init_16 rfl ?_
  refine b_putF (k := 0) (j := 1) (E' := [.inr (5, [.ref (h + 1), .ref (h + 2), .null]), .inl (cy 0, 6, .inl (fun _ => 0)), .inl (cy 7, 6, .inr (.inr (.inr (.inr (fun j => some (h + 2 + 1 + j)))))), .inl (cy 0, 4, .inl (fun _ => 0)), .inl (cy 0, 4, .inl (fun _ => 0)), .inl (cy 0, 4, .inl (fun _ => 0)), .inl (cy 0, 4, .inl (fun _ => 0)), .inl (cy 0, 4, .inl (fun _ => 0)), .inl (cy 0, 4, .inl (fun _ => 0))]) B hi rfl rfl rfl (by decide) (Nat.le_of_ble_eq_true rfl) inG_X5 tyX5_ok nmX5 rfl kf_X5_17 rfl rfl rfl rfl rfl dX5_init_20 ?_
  refine b_aload_n B dX5_init_23 0 rfl rfl ?_
  refine b_bipush (v := (6 : Int32)) B dX5_init_24 (by decide) ?_
  refine b_newa (atype := .long) (ty := .long) (t := 2) (N' := 6) (a0 := (6, .inr (.inl (fun _ => 0)))) (k := 9) B kr_long rfl rfl (fun _ => rfl) (by decide) (by decide) (by decide) ⟨by decide, by decide⟩ dX5_init_26 rfl ?_
  refine b_putF (k := 0) (j := 2) (E' := [.inr (5, [.ref (h + 1), .ref (h + 2), .ref (h + 9)]), .inl (cy 0, 6, .inl (fun _ => 0)), .inl (cy 7, 6, .inr (.inr (.inr (.inr (fun j => some (h + 2 + 1 + j)))))), .inl (cy 0, 4, .inl (fun _ => 0)), .inl (cy 0, 4, .inl (fun _ => 0)), .inl (cy 0, 4, .inl (fun _ => 0)), .inl (cy 0, 4, .inl (fun _ => 0)), .inl (cy 0, 4, .inl (fun _ => 0)), .inl (cy 0, 4, .inl (fun _ => 0)), .inl (cy 2, 6, .inr (.inl (fun _ => 0)))]) B hi rfl rfl rfl (by decide) (Nat.le_of_ble_eq_true rfl) inG_X5 tyX5_ok nmX5 rfl kf_X5_20 rfl rfl rfl rfl rfl dX5_init_28 ?_
  refine b_aload_n B dX5_init_31 0 rfl rfl ?_
  refine b_cvv (cs := csR) (ad := adR h) (S0 := S0R) (S1 := fgZ S0R) (k := 0) (rest := []) (As := []) (E' := eRights cy h) B (c_X5_forget (adR_ok h) (tt_ok _ _) 7 0 S0R () _ (forget_R S0R)) mf_X5_forget km_X5_24 ⟨by decide, by decide⟩ ⟨rfl, rfl⟩ rfl rfl rfl rfl rfl (Nat.le_of_ble_eq_true rfl) ⟨by decide, by decide⟩ dX5_init_32 (fun H hP => rt_c0 hP) (fun H hP => rt_c1 hP) (fun q hq => ?_) rfl ?_
  · obtain ⟨x, -, rfl⟩ := hq
    exact Nat.le_add_right _ _
  · exact b_ret B hr dX5_init_35 (by decide) (by decide) rfl
