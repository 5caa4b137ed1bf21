/-! ===== the makers with loops ===== -/
theorem fl_0 (v : Int32) : (fun _ => 0 : Nat → Int32) = fl v 0 := by
  funext j
  rfl
theorem upd_fl (v : Int32) {i : Nat} (h : i < 2147483648) : upd (fl v i) (nI i).toNatClampNeg v = fl v (i + 1) := by
  rw [cl_k h]
  funext j
  unfold upd fl
  by_cases e : j = i
  · rw [if_pos e, if_pos (by omega)]
  · rw [if_neg e]
    by_cases q : j < i
    · rw [if_pos q, if_pos (by omega)]
    · rw [if_neg q, if_neg (by omega)]
def rmB_X2 : Room := { frames := 1, cells := 1, slots := 52, locals := 24 }
theorem mi_X2_init : MFI yX2_init cX2_init 3 1 := ⟨ki_X2_init, kn_X2, kc_X2_init, rfl, by decide +kernel⟩
set_option maxHeartbeats 4000000 in
set_option maxRecDepth 100000 in
theorem cb_X2_init {l : Launch} {D : va_G} {cy : Nat → ClassId} (h : Nat) (n : Int32) : CtrB l yX2_init cX2_init 3 rmB_X2 D cy h [.ref h, .int n] (.inr (2, [.int 0, .null, .int 0, .int 0])) (eFam cy h n) 1 52 := by
  refine CtrB.of RX2 (plainFor_of_name (by decide)) rfl rfl [(0, .ref h), (1, .int n)] rfl (Nat.le_of_ble_eq_true rfl) (fun p e s m below meth c B hi hr => ?_)
  refine b_aload_n B dX2_init_0 0 rfl rfl ?_
  refine b_obj B km_X2_3 (by decide) (Nat.le_of_ble_eq_true rfl) dX2_init_1 ?_
  refine b_aload_n B dX2_init_4 0 rfl rfl ?_
  refine b_bipush (v := (52 : Int32)) B dX2_init_5 (by decide) ?_
  refine b_newa (atype := .int) (ty := .int) (t := 0) (N' := 52) (a0 := (52, .inl (fun _ => 0))) (k := 1) B kr_int rfl rfl (fun _ => rfl) (by decide) (by decide) (by decide) ⟨by decide, by decide⟩ dX2_init_7 rfl ?_
  refine b_putF (k := 0) (j := 1) (E' := [.inr (2, [.int 0, .ref (h + 1), .int 0, .int 0]), .inl (cy 0, 52, .inl (fun _ => 0))]) B hi rfl rfl rfl (by decide) (Nat.le_of_ble_eq_true rfl) inG_X2 tyX2_ok nmX2 rfl kf_X2_9 rfl rfl rfl rfl rfl dX2_init_9 ?_
  refine b_aload_n B dX2_init_12 0 rfl rfl ?_
  refine b_iload_n B dX2_init_13 1 rfl rfl ?_
  refine b_putF (k := 0) (j := 0) (E' := [.inr (2, [.int n, .ref (h + 1), .int 0, .int 0]), .inl (cy 0, 52, .inl (fun _ => 0))]) B hi rfl rfl rfl (by decide) (Nat.le_of_ble_eq_true rfl) inG_X2 tyX2_ok nmX2 rfl kf_X2_15 rfl rfl rfl rfl rfl dX2_init_14 ?_
  have e0 : (fun _ => 0 : Nat → Int32) = fl 40 0 := fl_0 40
  rw [e0]
  refine b_iconst (v := (0 : Int32)) B dX2_init_17 (by decide) ?_
  refine b_istore_n (lv' := [(2, .int (nI 0)), (0, .ref h), (1, .int n)]) B dX2_init_18 rfl (by decide) rfl ?_
  have loop : ∀ (mm i : Nat), i + mm = 52 → BW p l e rmB_X2 s m [Value.ref h, .int n].toArray below meth c (MQ below (QB D h (eFam cy h n)) [Value.ref h, .int n].toArray s 1 52 (fun q => h ≤ q)) D h (0 + 1) (0 + 52) 3 19 [(2, .int (nI i)), (0, .ref h), (1, .int n)] [] [.inr (2, [.int n, .ref (h + 1), .int 0, .int 0]), .inl (cy 0, 52, .inl (fl 40 i))] := by
    intro mm
    induction mm with
    | zero =>
      intro i hi2
      have ei : i = 52 := by omega
      subst ei
      refine b_iload_n B dX2_init_19 0 rfl rfl ?_
      refine b_bipush (v := nI 52) B dX2_init_20 (by decide) ?_
      refine b_icmp_ge B 39 dX2_init_22 (by decide) (fun _ => ?_) (fun q => absurd (Int32.le_refl _) q)
      exact b_ret B hr dX2_init_39 (by decide) (by decide) rfl
    | succ mm ih =>
      intro i hi2
      refine b_iload_n B dX2_init_19 0 rfl rfl ?_
      refine b_bipush (v := nI 52) B dX2_init_20 (by decide) ?_
      refine b_icmp_ge B 39 dX2_init_22 (by decide) (fun q => absurd q (by rw [nI_leI (by omega) (by omega)]; omega)) (fun _ => ?_)
      refine b_aload_n B dX2_init_25 1 rfl rfl ?_
      refine b_get (k := 0) (j := 1) B rfl rfl rfl (by decide) rfl inG_X2 rfl kf_X2_9 dX2_init_26 ?_
      refine b_iload_n B dX2_init_29 0 rfl rfl ?_
      refine b_bipush (v := (40 : Int32)) B dX2_init_30 (by decide) ?_
      refine b_iast (k := 1) (E' := [.inr (2, [.int n, .ref (h + 1), .int 0, .int 0]), .inl (cy 0, 52, .inl (fl 40 (i + 1)))]) B rfl rfl (inb_in (inb_k (by omega) (by decide))) (by rw [upd_fl _ (by omega)]; rfl) dX2_init_32 ?_
      refine b_iinc (k := 0) (v := nI (i + 1)) (lv' := [(2, .int (nI (i + 1))), (0, .ref h), (1, .int n)]) B dX2_init_33 rfl (nI_1 i) (by decide) rfl ?_
      refine b_goto B 19 dX2_init_36 (by decide) ?_
      exact ih (i + 1) (by omega)
  exact loop 52 0 rfl
def csR : List (Nat × Nat) := [(20, 0), (21, 0), (22, 0), (23, 0), (23, 1), (23, 2), (23, 3), (23, 4), (23, 5), (24, 0)]
def offR (c k : Nat) : Nat := match c with
  | 20 => 0
  | 21 => 1
  | 22 => 2
  | 23 => 3 + k
  | _ => 9
def adR (h : Nat) : Nat → Nat → Nat := fun c k => h + offR c k
def fgZ (S : HS) : HS := (ul (ui (ui (ui (ui (ui (ul (ui (ui (ui (ui (ui (ul (ui (ui (ui (ui (ui (ul (ui (ui (ui (ui (ui (ul (ui (ui (ui (ui (ui (ul (ui (ui (ui (ui (ui S 21 0 0 (-1)) 23 0 0 (-1)) 23 0 1 (-1)) 23 0 2 (-1)) 23 0 3 (-1)) 24 0 0 0) 21 0 1 (-1)) 23 1 0 (-1)) 23 1 1 (-1)) 23 1 2 (-1)) 23 1 3 (-1)) 24 0 1 0) 21 0 2 (-1)) 23 2 0 (-1)) 23 2 1 (-1)) 23 2 2 (-1)) 23 2 3 (-1)) 24 0 2 0) 21 0 3 (-1)) 23 3 0 (-1)) 23 3 1 (-1)) 23 3 2 (-1)) 23 3 3 (-1)) 24 0 3 0) 21 0 4 (-1)) 23 4 0 (-1)) 23 4 1 (-1)) 23 4 2 (-1)) 23 4 3 (-1)) 24 0 4 0) 21 0 5 (-1)) 23 5 0 (-1)) 23 5 1 (-1)) 23 5 2 (-1)) 23 5 3 (-1)) 24 0 5 0)
set_option maxRecDepth 100000 in
theorem forget_R (S : HS) : f_X5_forget csR 7 0 S = some ((), fgZ S) := rfl
