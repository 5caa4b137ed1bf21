/-! ===== the makers that go straight on ===== -/
def fl (v : Int32) (n : Nat) : Nat → Int32 := fun j => if j < n then v else 0
def eBench : List va_E := [.inr (0, [.int 0, .int 0])]
def ePat : List va_E := [.inr (3, [.int 5, .int 2, .int 0])]
def eOrd (n : Int32) : List va_E := [.inr (6, [.int n, .int 0, .int 0, .int 0, .int 0, .int 0, .int 0, .int 0, .int 0, .int 0, .int (-1)])]
def eTape (cy : Nat → ClassId) (h : Nat) : List va_E := [.inr (7, [.int 0, .int 0, .int 0, .int 0, .ref (h + 1), .int 0]), .inl (cy 1, 500, .inl (fun _ => 0))]
def eReader (cy : Nat → ClassId) (h : Nat) : List va_E := [.inr (1, [.ref (h + 1), .int 0, .int 0, .int (-1), .ref (h + 3)]), .inr (7, [.int 0, .int 0, .int 0, .int 0, .ref (h + 1 + 1), .int 0]), .inl (cy 1, 500, .inl (fun _ => 0)), .inl (cy 0, 3, .inl (fun _ => 0))]
def ePlan (cy : Nat → ClassId) (h : Nat) : List va_E := [.inr (4, [.int 0, .int 0, .ref (h + 1), .ref (h + 2), .ref (h + 3), .ref (h + 4), .int 0, .ref (h + 5), .ref (h + 6), .ref (h + 7), .ref (h + 8), .ref (h + 9), .ref (h + 10), .ref (h + 11), .ref (h + 12)]), .inl (cy 0, 7, .inl (fun _ => 0)), .inl (cy 0, 7, .inl (fun _ => 0)), .inl (cy 0, 7, .inl (fun _ => 0)), .inl (cy 0, 7, .inl (fun _ => 0)), .inr (0, [.int 0, .int 0]), .inl (cy 3, 128, .inl (fun _ => 0)), .inl (cy 0, 128, .inl (fun _ => 0)), .inl (cy 0, 128, .inl (fun _ => 0)), .inl (cy 0, 128, .inl (fun _ => 0)), .inl (cy 2, 128, .inr (.inl (fun _ => 0))), .inl (cy 2, 128, .inr (.inl (fun _ => 0))), .inl (cy 7, 4, .inr (.inr (.inr (.inr (fun j => some (h + 12 + 1 + j)))))), .inl (cy 0, 128, .inl (fun _ => 0)), .inl (cy 0, 128, .inl (fun _ => 0)), .inl (cy 0, 128, .inl (fun _ => 0)), .inl (cy 0, 128, .inl (fun _ => 0))]
def eRights (cy : Nat → ClassId) (h : Nat) : List va_E := [.inr (5, [.ref (h + 1), .ref (h + 2), .ref (h + 9)]), .inl (cy 0, 6, .inl (fun _ => -1)), .inl (cy 7, 6, .inr (.inr (.inr (.inr (fun j => some (h + 2 + 1 + j)))))), .inl (cy 0, 4, .inl (fun _ => -1)), .inl (cy 0, 4, .inl (fun _ => -1)), .inl (cy 0, 4, .inl (fun _ => -1)), .inl (cy 0, 4, .inl (fun _ => -1)), .inl (cy 0, 4, .inl (fun _ => -1)), .inl (cy 0, 4, .inl (fun _ => -1)), .inl (cy 2, 6, .inr (.inl (fun _ => 0)))]
def eFam (cy : Nat → ClassId) (h : Nat) (n : Int32) : List va_E := [.inr (2, [.int n, .ref (h + 1), .int 0, .int 0]), .inl (cy 0, 52, .inl (fl 40 52))]
def eRights0 (cy : Nat → ClassId) (h : Nat) : List va_E := [.inr (5, [.ref (h + 1), .ref (h + 2), .ref (h + 9)]), .inl (cy 0, 6, .inl (fun _ => 0)), .inl (cy 7, 6, .inr (.inr (.inr (.inr (fun j => some (h + 2 + 1 + j)))))), .inl (cy 0, 4, .inl (fun _ => 0)), .inl (cy 0, 4, .inl (fun _ => 0)), .inl (cy 0, 4, .inl (fun _ => 0)), .inl (cy 0, 4, .inl (fun _ => 0)), .inl (cy 0, 4, .inl (fun _ => 0)), .inl (cy 0, 4, .inl (fun _ => 0)), .inl (cy 2, 6, .inr (.inl (fun _ => 0)))]
theorem kl2_X4 : Cond.classLink RX4 51 "[[I" ∈ gw := gw_mem 147 (by decide +kernel) (by decide +kernel)
theorem kl2_X5 : Cond.classLink RX5 15 "[[I" ∈ gw := gw_mem 208 (by decide +kernel) (by decide +kernel)
def rmB_X0 : Room := { frames := 1, cells := 0, slots := 0, locals := 24 }
theorem mi_X0_init : MFI yX0_init cX0_init 1 0 := ⟨ki_X0_init, kn_X0, kc_X0_init, rfl, by decide +kernel⟩
set_option maxHeartbeats 4000000 in
set_option maxRecDepth 100000 in
theorem cb_X0_init {l : Launch} {D : va_G} {cy : Nat → ClassId} (h : Nat) : CtrB l yX0_init cX0_init 1 rmB_X0 D cy h [.ref h] (.inr (0, [.int 0, .int 0])) (eBench) 0 0 := by
  refine CtrB.of RX0 (plainFor_of_name (by decide)) rfl rfl [(0, .ref h)] rfl (Nat.le_of_ble_eq_true rfl) (fun p e s m below meth c B hi hr => ?_)
  refine b_aload_n B dX0_init_0 0 rfl rfl ?_
  refine b_obj B km_X0_1 (by decide) (Nat.le_of_ble_eq_true rfl) dX0_init_1 ?_
  exact b_ret B hr dX0_init_4 (by decide) (by decide) rfl
def rmB_X3 : Room := { frames := 1, cells := 0, slots := 0, locals := 24 }
theorem mi_X3_init : MFI yX3_init cX3_init 1 0 := ⟨ki_X3_init, kn_X3, kc_X3_init, rfl, by decide +kernel⟩
set_option maxHeartbeats 4000000 in
set_option maxRecDepth 100000 in
theorem cb_X3_init {l : Launch} {D : va_G} {cy : Nat → ClassId} (h : Nat) : CtrB l yX3_init cX3_init 1 rmB_X3 D cy h [.ref h] (.inr (3, [.int 0, .int 0, .int 0])) (ePat) 0 0 := by
  refine CtrB.of RX3 (plainFor_of_name (by decide)) rfl rfl [(0, .ref h)] rfl (Nat.le_of_ble_eq_true rfl) (fun p e s m below meth c B hi hr => ?_)
  refine b_aload_n B dX3_init_0 0 rfl rfl ?_
  refine b_obj B km_X3_3 (by decide) (Nat.le_of_ble_eq_true rfl) dX3_init_1 ?_
  refine b_aload_n B dX3_init_4 0 rfl rfl ?_
  refine b_iconst (v := (5 : Int32)) B dX3_init_5 (by decide) ?_
  refine b_put (k := 0) (j := 0) (E' := [.inr (3, [.int 5, .int 0, .int 0])]) B rfl rfl rfl (by decide) (Nat.le_of_ble_eq_true rfl) inG_X3 tyX3_ok nmX3 rfl kf_X3_9 rfl rfl rfl rfl dX3_init_6 ?_
  refine b_aload_n B dX3_init_9 0 rfl rfl ?_
  refine b_iconst (v := (2 : Int32)) B dX3_init_10 (by decide) ?_
  refine b_put (k := 0) (j := 1) (E' := [.inr (3, [.int 5, .int 2, .int 0])]) B rfl rfl rfl (by decide) (Nat.le_of_ble_eq_true rfl) inG_X3 tyX3_ok nmX3 rfl kf_X3_15 rfl rfl rfl rfl dX3_init_11 ?_
  refine b_aload_n B dX3_init_14 0 rfl rfl ?_
  refine b_iconst (v := (0 : Int32)) B dX3_init_15 (by decide) ?_
  refine b_put (k := 0) (j := 2) (E' := [.inr (3, [.int 5, .int 2, .int 0])]) B rfl rfl rfl (by decide) (Nat.le_of_ble_eq_true rfl) inG_X3 tyX3_ok nmX3 rfl kf_X3_18 rfl rfl rfl rfl dX3_init_16 ?_
  exact b_ret B hr dX3_init_19 (by decide) (by decide) rfl
def rmB_X6 : Room := { frames := 1, cells := 0, slots := 0, locals := 24 }
theorem mi_X6_init : MFI yX6_init cX6_init 2 1 := ⟨ki_X6_init, kn_X6, kc_X6_init, rfl, by decide +kernel⟩
set_option maxHeartbeats 4000000 in
set_option maxRecDepth 100000 in
theorem cb_X6_init {l : Launch} {D : va_G} {cy : Nat → ClassId} (h : Nat) (n : Int32) : CtrB l yX6_init cX6_init 2 rmB_X6 D cy h [.ref h, .int n] (.inr (6, [.int 0, .int 0, .int 0, .int 0, .int 0, .int 0, .int 0, .int 0, .int 0, .int 0, .int 0])) (eOrd n) 0 0 := by
  refine CtrB.of RX6 (plainFor_of_name (by decide)) rfl rfl [(0, .ref h), (1, .int n)] rfl (Nat.le_of_ble_eq_true rfl) (fun p e s m below meth c B hi hr => ?_)
  refine b_aload_n B dX6_init_0 0 rfl rfl ?_
  refine b_obj B km_X6_3 (by decide) (Nat.le_of_ble_eq_true rfl) dX6_init_1 ?_
  refine b_aload_n B dX6_init_4 0 rfl rfl ?_
  refine b_iconst (v := (0 : Int32)) B dX6_init_5 (by decide) ?_
  refine b_put (k := 0) (j := 8) (E' := [.inr (6, [.int 0, .int 0, .int 0, .int 0, .int 0, .int 0, .int 0, .int 0, .int 0, .int 0, .int 0])]) B rfl rfl rfl (by decide) (Nat.le_of_ble_eq_true rfl) inG_X6 tyX6_ok nmX6 rfl kf_X6_9 rfl rfl rfl rfl dX6_init_6 ?_
  refine b_aload_n B dX6_init_9 0 rfl rfl ?_
  refine b_iconst (v := (-1 : Int32)) B dX6_init_10 (by decide) ?_
  refine b_put (k := 0) (j := 10) (E' := [.inr (6, [.int 0, .int 0, .int 0, .int 0, .int 0, .int 0, .int 0, .int 0, .int 0, .int 0, .int (-1)])]) B rfl rfl rfl (by decide) (Nat.le_of_ble_eq_true rfl) inG_X6 tyX6_ok nmX6 rfl kf_X6_15 rfl rfl rfl rfl dX6_init_11 ?_
  refine b_aload_n B dX6_init_14 0 rfl rfl ?_
  refine b_iload_n B dX6_init_15 1 rfl rfl ?_
  refine b_putF (k := 0) (j := 0) (E' := [.inr (6, [.int n, .int 0, .int 0, .int 0, .int 0, .int 0, .int 0, .int 0, .int 0, .int 0, .int (-1)])]) B hi rfl rfl rfl (by decide) (Nat.le_of_ble_eq_true rfl) inG_X6 tyX6_ok nmX6 rfl kf_X6_18 rfl rfl rfl rfl rfl dX6_init_16 ?_
  exact b_ret B hr dX6_init_19 (by decide) (by decide) rfl
def rmB_X7 : Room := { frames := 1, cells := 1, slots := 500, locals := 24 }
theorem mi_X7_init : MFI yX7_init cX7_init 1 0 := ⟨ki_X7_init, kn_X7, kc_X7_init, rfl, by decide +kernel⟩
set_option maxHeartbeats 4000000 in
set_option maxRecDepth 100000 in
theorem cb_X7_init {l : Launch} {D : va_G} {cy : Nat → ClassId} (h : Nat) : CtrB l yX7_init cX7_init 1 rmB_X7 D cy h [.ref h] (.inr (7, [.int 0, .int 0, .int 0, .int 0, .null, .int 0])) (eTape cy h) 1 500 := by
  refine CtrB.of RX7 (plainFor_of_name (by decide)) rfl rfl [(0, .ref h)] rfl (Nat.le_of_ble_eq_true rfl) (fun p e s m below meth c B hi hr => ?_)
  refine b_aload_n B dX7_init_0 0 rfl rfl ?_
  refine b_obj B km_X7_3 (by decide) (Nat.le_of_ble_eq_true rfl) dX7_init_1 ?_
  refine b_aload_n B dX7_init_4 0 rfl rfl ?_
  refine b_sipush (v := (500 : Int32)) B dX7_init_5 (by decide) ?_
  refine b_newa (atype := .byte) (ty := .byte) (t := 1) (N' := 500) (a0 := (500, .inl (fun _ => 0))) (k := 1) B kr_byte rfl rfl (fun _ => rfl) (by decide) (by decide) (by decide) ⟨by decide, by decide⟩ dX7_init_8 rfl ?_
  refine b_putF (k := 0) (j := 4) (E' := [.inr (7, [.int 0, .int 0, .int 0, .int 0, .ref (h + 1), .int 0]), .inl (cy 1, 500, .inl (fun _ => 0))]) B hi rfl rfl rfl (by decide) (Nat.le_of_ble_eq_true rfl) inG_X7 tyX7_ok nmX7 rfl kf_X7_9 rfl rfl rfl rfl rfl dX7_init_10 ?_
  exact b_ret B hr dX7_init_13 (by decide) (by decide) rfl
def rmB_X1 : Room := { frames := 2, cells := 3, slots := 509, locals := 60 }
theorem mi_X1_init : MFI yX1_init cX1_init 1 0 := ⟨ki_X1_init, kn_X1, kc_X1_init, rfl, by decide +kernel⟩
set_option maxHeartbeats 4000000 in
set_option maxRecDepth 100000 in
theorem cb_X1_init {l : Launch} {D : va_G} {cy : Nat → ClassId} (h : Nat) : CtrB l yX1_init cX1_init 1 rmB_X1 D cy h [.ref h] (.inr (1, [.null, .int 0, .int 0, .int 0, .null])) (eReader cy h) 3 509 := by
  refine CtrB.of RX1 (plainFor_of_name (by decide)) rfl rfl [(0, .ref h)] rfl (Nat.le_of_ble_eq_true rfl) (fun p e s m below meth c B hi hr => ?_)
  refine b_aload_n B dX1_init_0 0 rfl rfl ?_
  refine b_obj B km_X1_3 (by decide) (Nat.le_of_ble_eq_true rfl) dX1_init_1 ?_
  refine b_aload_n B dX1_init_4 0 rfl rfl ?_
  refine b_new (ci := 7) (N := 6) (fs := [.int 0, .int 0, .int 0, .int 0, .null, .int 0]) (k := 1) B inG_X7 tyX7_ok kl_X1_9 ka_X7 kn_X7 rfl (by decide) ⟨by decide, by decide⟩ dX1_init_5 rfl ?_
  refine b_dup B dX1_init_8 rfl ?_
  refine b_initN (k := 1) (E0 := [.inr (1, [.null, .int 0, .int 0, .int 0, .null])]) (E1 := eTape cy (h + 1)) (E' := [.inr (1, [.null, .int 0, .int 0, .int 0, .null]), .inr (7, [.int 0, .int 0, .int 0, .int 0, .ref (h + 1 + 1), .int 0]), .inl (cy 1, 500, .inl (fun _ => 0))]) (rest := [.ref (h + 1), .ref h]) (As := []) B (cb_X7_init (h + 1)) mi_X7_init (by decide) rfl rfl rfl ⟨by decide, by decide⟩ ⟨rfl, rfl⟩ rfl rfl (Nat.le_of_ble_eq_true rfl) ⟨by decide, by decide⟩ dX1_init_9 rfl ?_
  refine b_putF (k := 0) (j := 0) (E' := [.inr (1, [.ref (h + 1), .int 0, .int 0, .int 0, .null]), .inr (7, [.int 0, .int 0, .int 0, .int 0, .ref (h + 1 + 1), .int 0]), .inl (cy 1, 500, .inl (fun _ => 0))]) B hi rfl rfl rfl (by decide) (Nat.le_of_ble_eq_true rfl) inG_X1 tyX1_ok nmX1 rfl kf_X1_12 rfl rfl rfl rfl rfl dX1_init_12 ?_
  refine b_aload_n B dX1_init_15 0 rfl rfl ?_
  refine b_iconst (v := (-1 : Int32)) B dX1_init_16 (by decide) ?_
  refine b_put (k := 0) (j := 3) (E' := [.inr (1, [.ref (h + 1), .int 0, .int 0, .int (-1), .null]), .inr (7, [.int 0, .int 0, .int 0, .int 0, .ref (h + 1 + 1), .int 0]), .inl (cy 1, 500, .inl (fun _ => 0))]) B rfl rfl rfl (by decide) (Nat.le_of_ble_eq_true rfl) inG_X1 tyX1_ok nmX1 rfl kf_X1_18 rfl rfl rfl rfl dX1_init_17 ?_
  refine b_aload_n B dX1_init_20 0 rfl rfl ?_
  refine b_iconst (v := (3 : Int32)) B dX1_init_21 (by decide) ?_
  refine b_newa (atype := .int) (ty := .int) (t := 0) (N' := 3) (a0 := (3, .inl (fun _ => 0))) (k := 3) B kr_int rfl rfl (fun _ => rfl) (by decide) (by decide) (by decide) ⟨by decide, by decide⟩ dX1_init_22 rfl ?_
  refine b_putF (k := 0) (j := 4) (E' := [.inr (1, [.ref (h + 1), .int 0, .int 0, .int (-1), .ref (h + 3)]), .inr (7, [.int 0, .int 0, .int 0, .int 0, .ref (h + 1 + 1), .int 0]), .inl (cy 1, 500, .inl (fun _ => 0)), .inl (cy 0, 3, .inl (fun _ => 0))]) B hi rfl rfl rfl (by decide) (Nat.le_of_ble_eq_true rfl) inG_X1 tyX1_ok nmX1 rfl kf_X1_22 rfl rfl rfl rfl rfl dX1_init_24 ?_
  exact b_ret B hr dX1_init_27 (by decide) (by decide) rfl
def rmB_X4 : Room := { frames := 2, cells := 16, slots := 1314, locals := 60 }
theorem mi_X4_init : MFI yX4_init cX4_init 1 0 := ⟨ki_X4_init, kn_X4, kc_X4_init, rfl, by decide +kernel⟩
set_option maxHeartbeats 4000000 in
set_option maxRecDepth 100000 in
theorem cb_X4_init {l : Launch} {D : va_G} {cy : Nat → ClassId} (h : Nat) : CtrB l yX4_init cX4_init 1 rmB_X4 D cy h [.ref h] (.inr (4, [.int 0, .int 0, .null, .null, .null, .null, .int 0, .null, .null, .null, .null, .null, .null, .null, .null])) (ePlan cy h) 16 1314 := by
  refine CtrB.of RX4 (plainFor_of_name (by decide)) rfl rfl [(0, .ref h)] rfl (Nat.le_of_ble_eq_true rfl) (fun p e s m below meth c B hi hr => ?_)
  refine b_aload_n B dX4_init_0 0 rfl rfl ?_
  refine b_obj B km_X4_3 (by decide) (Nat.le_of_ble_eq_true rfl) dX4_init_1 ?_
  refine b_aload_n B dX4_init_4 0 rfl rfl ?_
  refine b_bipush (v := (7 : Int32)) B dX4_init_5 (by decide) ?_
  refine b_newa (atype := .int) (ty := .int) (t := 0) (N' := 7) (a0 := (7, .inl (fun _ => 0))) (k := 1) B kr_int rfl rfl (fun _ => rfl) (by decide) (by decide) (by decide) ⟨by decide, by decide⟩ dX4_init_7 rfl ?_
  refine b_putF (k := 0) (j := 2) (E' := [.inr (4, [.int 0, .int 0, .ref (h + 1), .null, .null, .null, .int 0, .null, .null, .null, .null, .null, .null, .null, .null]), .inl (cy 0, 7, .inl (fun _ => 0))]) B hi rfl rfl rfl (by decide) (Nat.le_of_ble_eq_true rfl) inG_X4 tyX4_ok nmX4 rfl kf_X4_9 rfl rfl rfl rfl rfl dX4_init_9 ?_
  refine b_aload_n B dX4_init_12 0 rfl rfl ?_
  refine b_bipush (v := (7 : Int32)) B dX4_init_13 (by decide) ?_
  refine b_newa (atype := .int) (ty := .int) (t := 0) (N' := 7) (a0 := (7, .inl (fun _ => 0))) (k := 2) B kr_int rfl rfl (fun _ => rfl) (by decide) (by decide) (by decide) ⟨by decide, by decide⟩ dX4_init_15 rfl ?_
  refine b_putF (k := 0) (j := 3) (E' := [.inr (4, [.int 0, .int 0, .ref (h + 1), .ref (h + 2), .null, .null, .int 0, .null, .null, .null, .null, .null, .null, .null, .null]), .inl (cy 0, 7, .inl (fun _ => 0)), .inl (cy 0, 7, .inl (fun _ => 0))]) B hi rfl rfl rfl (by decide) (Nat.le_of_ble_eq_true rfl) inG_X4 tyX4_ok nmX4 rfl kf_X4_15 rfl rfl rfl rfl rfl dX4_init_17 ?_
  refine b_aload_n B dX4_init_20 0 rfl rfl ?_
  refine b_bipush (v := (7 : Int32)) B dX4_init_21 (by decide) ?_
  refine b_newa (atype := .int) (ty := .int) (t := 0) (N' := 7) (a0 := (7, .inl (fun _ => 0))) (k := 3) B kr_int rfl rfl (fun _ => rfl) (by decide) (by decide) (by decide) ⟨by decide, by decide⟩ dX4_init_23 rfl ?_
  refine b_putF (k := 0) (j := 4) (E' := [.inr (4, [.int 0, .int 0, .ref (h + 1), .ref (h + 2), .ref (h + 3), .null, .int 0, .null, .null, .null, .null, .null, .null, .null, .null]), .inl (cy 0, 7, .inl (fun _ => 0)), .inl (cy 0, 7, .inl (fun _ => 0)), .inl (cy 0, 7, .inl (fun _ => 0))]) B hi rfl rfl rfl (by decide) (Nat.le_of_ble_eq_true rfl) inG_X4 tyX4_ok nmX4 rfl kf_X4_18 rfl rfl rfl rfl rfl dX4_init_25 ?_
  refine b_aload_n B dX4_init_28 0 rfl rfl ?_
  refine b_bipush (v := (7 : Int32)) B dX4_init_29 (by decide) ?_
  refine b_newa (atype := .int) (ty := .int) (t := 0) (N' := 7) (a0 := (7, .inl (fun _ => 0))) (k := 4) B kr_int rfl rfl (fun _ => rfl) (by decide) (by decide) (by decide) ⟨by decide, by decide⟩ dX4_init_31 rfl ?_
  refine b_putF (k := 0) (j := 5) (E' := [.inr (4, [.int 0, .int 0, .ref (h + 1), .ref (h + 2), .ref (h + 3), .ref (h + 4), .int 0, .null, .null, .null, .null, .null, .null, .null, .null]), .inl (cy 0, 7, .inl (fun _ => 0)), .inl (cy 0, 7, .inl (fun _ => 0)), .inl (cy 0, 7, .inl (fun _ => 0)), .inl (cy 0, 7, .inl (fun _ => 0))]) B hi rfl rfl rfl (by decide) (Nat.le_of_ble_eq_true rfl) inG_X4 tyX4_ok nmX4 rfl kf_X4_21 rfl rfl rfl rfl rfl dX4_init_33 ?_
  refine b_aload_n B dX4_init_36 0 rfl rfl ?_
  refine b_new (ci := 0) (N := 2) (fs := [.int 0, .int 0]) (k := 5) B inG_X0 tyX0_ok kl_X4_24 ka_X0 kn_X0 rfl (by decide) ⟨by decide, by decide⟩ dX4_init_37 rfl ?_
  refine b_dup B dX4_init_40 rfl ?_
  refine b_initN (k := 5) (E0 := [.inr (4, [.int 0, .int 0, .ref (h + 1), .ref (h + 2), .ref (h + 3), .ref (h + 4), .int 0, .null, .null, .null, .null, .null, .null, .null, .null]), .inl (cy 0, 7, .inl (fun _ => 0)), .inl (cy 0, 7, .inl (fun _ => 0)), .inl (cy 0, 7, .inl (fun _ => 0)), .inl (cy 0, 7, .inl (fun _ => 0))]) (E1 := eBench) (E' := [.inr (4, [.int 0, .int 0, .ref (h + 1), .ref (h + 2), .ref (h + 3), .ref (h + 4), .int 0, .null, .null, .null, .null, .null, .null, .null, .null]), .inl (cy 0, 7, .inl (fun _ => 0)), .inl (cy 0, 7, .inl (fun _ => 0)), .inl (cy 0, 7, .inl (fun _ => 0)), .inl (cy 0, 7, .inl (fun _ => 0)), .inr (0, [.int 0, .int 0])]) (rest := [.ref (h + 5), .ref h]) (As := []) B (cb_X0_init (h + 5)) mi_X0_init (by decide) rfl rfl rfl ⟨by decide, by decide⟩ ⟨rfl, rfl⟩ rfl rfl (Nat.le_of_ble_eq_true rfl) ⟨by decide, by decide⟩ dX4_init_41 rfl ?_
  refine b_putF (k := 0) (j := 7) (E' := [.inr (4, [.int 0, .int 0, .ref (h + 1), .ref (h + 2), .ref (h + 3), .ref (h + 4), .int 0, .ref (h + 5), .null, .null, .null, .null, .null, .null, .null]), .inl (cy 0, 7, .inl (fun _ => 0)), .inl (cy 0, 7, .inl (fun _ => 0)), .inl (cy 0, 7, .inl (fun _ => 0)), .inl (cy 0, 7, .inl (fun _ => 0)), .inr (0, [.int 0, .int 0])]) B hi rfl rfl rfl (by decide) (Nat.le_of_ble_eq_true rfl) inG_X4 tyX4_ok nmX4 rfl kf_X4_27 rfl rfl rfl rfl rfl dX4_init_44 ?_
  refine b_aload_n B dX4_init_47 0 rfl rfl ?_
  refine b_sipush (v := (128 : Int32)) B dX4_init_48 (by decide) ?_
  refine b_newa (atype := .boolean) (ty := .boolean) (t := 3) (N' := 128) (a0 := (128, .inl (fun _ => 0))) (k := 6) B kr_boolean rfl rfl (fun _ => rfl) (by decide) (by decide) (by decide) ⟨by decide, by decide⟩ dX4_init_51 rfl ?_
  refine b_putF (k := 0) (j := 8) (E' := [.inr (4, [.int 0, .int 0, .ref (h + 1), .ref (h + 2), .ref (h + 3), .ref (h + 4), .int 0, .ref (h + 5), .ref (h + 6), .null, .null, .null, .null, .null, .null]), .inl (cy 0, 7, .inl (fun _ => 0)), .inl (cy 0, 7, .inl (fun _ => 0)), .inl (cy 0, 7, .inl (fun _ => 0)), .inl (cy 0, 7, .inl (fun _ => 0)), .inr (0, [.int 0, .int 0]), .inl (cy 3, 128, .inl (fun _ => 0))]) B hi rfl rfl rfl (by decide) (Nat.le_of_ble_eq_true rfl) inG_X4 tyX4_ok nmX4 rfl kf_X4_31 rfl rfl rfl rfl rfl dX4_init_53 ?_
  refine b_aload_n B dX4_init_56 0 rfl rfl ?_
  refine b_sipush (v := (128 : Int32)) B dX4_init_57 (by decide) ?_
  refine b_newa (atype := .int) (ty := .int) (t := 0) (N' := 128) (a0 := (128, .inl (fun _ => 0))) (k := 7) B kr_int rfl rfl (fun _ => rfl) (by decide) (by decide) (by decide) ⟨by decide, by decide⟩ dX4_init_60 rfl ?_
  refine b_putF (k := 0) (j := 9) (E' := [.inr (4, [.int 0, .int 0, .ref (h + 1), .ref (h + 2), .ref (h + 3), .ref (h + 4), .int 0, .ref (h + 5), .ref (h + 6), .ref (h + 7), .null, .null, .null, .null, .null]), .inl (cy 0, 7, .inl (fun _ => 0)), .inl (cy 0, 7, .inl (fun _ => 0)), .inl (cy 0, 7, .inl (fun _ => 0)), .inl (cy 0, 7, .inl (fun _ => 0)), .inr (0, [.int 0, .int 0]), .inl (cy 3, 128, .inl (fun _ => 0)), .inl (cy 0, 128, .inl (fun _ => 0))]) B hi rfl rfl rfl (by decide) (Nat.le_of_ble_eq_true rfl) inG_X4 tyX4_ok nmX4 rfl kf_X4_35 rfl rfl rfl rfl rfl dX4_init_62 ?_
  refine b_aload_n B dX4_init_65 0 rfl rfl ?_
  refine b_sipush (v := (128 : Int32)) B dX4_init_66 (by decide) ?_
  refine b_newa (atype := .int) (ty := .int) (t := 0) (N' := 128) (a0 := (128, .inl (fun _ => 0))) (k := 8) B kr_int rfl rfl (fun _ => rfl) (by decide) (by decide) (by decide) ⟨by decide, by decide⟩ dX4_init_69 rfl ?_
  refine b_putF (k := 0) (j := 10) (E' := [.inr (4, [.int 0, .int 0, .ref (h + 1), .ref (h + 2), .ref (h + 3), .ref (h + 4), .int 0, .ref (h + 5), .ref (h + 6), .ref (h + 7), .ref (h + 8), .null, .null, .null, .null]), .inl (cy 0, 7, .inl (fun _ => 0)), .inl (cy 0, 7, .inl (fun _ => 0)), .inl (cy 0, 7, .inl (fun _ => 0)), .inl (cy 0, 7, .inl (fun _ => 0)), .inr (0, [.int 0, .int 0]), .inl (cy 3, 128, .inl (fun _ => 0)), .inl (cy 0, 128, .inl (fun _ => 0)), .inl (cy 0, 128, .inl (fun _ => 0))]) B hi rfl rfl rfl (by decide) (Nat.le_of_ble_eq_true rfl) inG_X4 tyX4_ok nmX4 rfl kf_X4_38 rfl rfl rfl rfl rfl dX4_init_71 ?_
  refine b_aload_n B dX4_init_74 0 rfl rfl ?_
  refine b_sipush (v := (128 : Int32)) B dX4_init_75 (by decide) ?_
  refine b_newa (atype := .int) (ty := .int) (t := 0) (N' := 128) (a0 := (128, .inl (fun _ => 0))) (k := 9) B kr_int rfl rfl (fun _ => rfl) (by decide) (by decide) (by decide) ⟨by decide, by decide⟩ dX4_init_78 rfl ?_
  refine b_putF (k := 0) (j := 11) (E' := [.inr (4, [.int 0, .int 0, .ref (h + 1), .ref (h + 2), .ref (h + 3), .ref (h + 4), .int 0, .ref (h + 5), .ref (h + 6), .ref (h + 7), .ref (h + 8), .ref (h + 9), .null, .null, .null]), .inl (cy 0, 7, .inl (fun _ => 0)), .inl (cy 0, 7, .inl (fun _ => 0)), .inl (cy 0, 7, .inl (fun _ => 0)), .inl (cy 0, 7, .inl (fun _ => 0)), .inr (0, [.int 0, .int 0]), .inl (cy 3, 128, .inl (fun _ => 0)), .inl (cy 0, 128, .inl (fun _ => 0)), .inl (cy 0, 128, .inl (fun _ => 0)), .inl (cy 0, 128, .inl (fun _ => 0))]) B hi rfl rfl rfl (by decide) (Nat.le_of_ble_eq_true rfl) inG_X4 tyX4_ok nmX4 rfl kf_X4_41 rfl rfl rfl rfl rfl dX4_init_80 ?_
  refine b_aload_n B dX4_init_83 0 rfl rfl ?_
  refine b_sipush (v := (128 : Int32)) B dX4_init_84 (by decide) ?_
  refine b_newa (atype := .long) (ty := .long) (t := 2) (N' := 128) (a0 := (128, .inr (.inl (fun _ => 0)))) (k := 10) B kr_long rfl rfl (fun _ => rfl) (by decide) (by decide) (by decide) ⟨by decide, by decide⟩ dX4_init_87 rfl ?_
  refine b_putF (k := 0) (j := 12) (E' := [.inr (4, [.int 0, .int 0, .ref (h + 1), .ref (h + 2), .ref (h + 3), .ref (h + 4), .int 0, .ref (h + 5), .ref (h + 6), .ref (h + 7), .ref (h + 8), .ref (h + 9), .ref (h + 10), .null, .null]), .inl (cy 0, 7, .inl (fun _ => 0)), .inl (cy 0, 7, .inl (fun _ => 0)), .inl (cy 0, 7, .inl (fun _ => 0)), .inl (cy 0, 7, .inl (fun _ => 0)), .inr (0, [.int 0, .int 0]), .inl (cy 3, 128, .inl (fun _ => 0)), .inl (cy 0, 128, .inl (fun _ => 0)), .inl (cy 0, 128, .inl (fun _ => 0)), .inl (cy 0, 128, .inl (fun _ => 0)), .inl (cy 2, 128, .inr (.inl (fun _ => 0)))]) B hi rfl rfl rfl (by decide) (Nat.le_of_ble_eq_true rfl) inG_X4 tyX4_ok nmX4 rfl kf_X4_44 rfl rfl rfl rfl rfl dX4_init_89 ?_
  refine b_aload_n B dX4_init_92 0 rfl rfl ?_
  refine b_sipush (v := (128 : Int32)) B dX4_init_93 (by decide) ?_
  refine b_newa (atype := .long) (ty := .long) (t := 2) (N' := 128) (a0 := (128, .inr (.inl (fun _ => 0)))) (k := 11) B kr_long rfl rfl (fun _ => rfl) (by decide) (by decide) (by decide) ⟨by decide, by decide⟩ dX4_init_96 rfl ?_
  refine b_putF (k := 0) (j := 13) (E' := [.inr (4, [.int 0, .int 0, .ref (h + 1), .ref (h + 2), .ref (h + 3), .ref (h + 4), .int 0, .ref (h + 5), .ref (h + 6), .ref (h + 7), .ref (h + 8), .ref (h + 9), .ref (h + 10), .ref (h + 11), .null]), .inl (cy 0, 7, .inl (fun _ => 0)), .inl (cy 0, 7, .inl (fun _ => 0)), .inl (cy 0, 7, .inl (fun _ => 0)), .inl (cy 0, 7, .inl (fun _ => 0)), .inr (0, [.int 0, .int 0]), .inl (cy 3, 128, .inl (fun _ => 0)), .inl (cy 0, 128, .inl (fun _ => 0)), .inl (cy 0, 128, .inl (fun _ => 0)), .inl (cy 0, 128, .inl (fun _ => 0)), .inl (cy 2, 128, .inr (.inl (fun _ => 0))), .inl (cy 2, 128, .inr (.inl (fun _ => 0)))]) B hi rfl rfl rfl (by decide) (Nat.le_of_ble_eq_true rfl) inG_X4 tyX4_ok nmX4 rfl kf_X4_48 rfl rfl rfl rfl rfl dX4_init_98 ?_
  refine b_aload_n B dX4_init_101 0 rfl rfl ?_
  refine b_iconst (v := (4 : Int32)) B dX4_init_102 (by decide) ?_
  refine b_sipush (v := (128 : Int32)) B dX4_init_103 (by decide) ?_
  refine b_multi (a := 4) (b := 128) (k := 12) B kl2_X4 rfl rfl (by decide) (by decide) ⟨by decide, by decide⟩ dX4_init_106 rfl ?_
  refine b_putF (k := 0) (j := 14) (E' := [.inr (4, [.int 0, .int 0, .ref (h + 1), .ref (h + 2), .ref (h + 3), .ref (h + 4), .int 0, .ref (h + 5), .ref (h + 6), .ref (h + 7), .ref (h + 8), .ref (h + 9), .ref (h + 10), .ref (h + 11), .ref (h + 12)]), .inl (cy 0, 7, .inl (fun _ => 0)), .inl (cy 0, 7, .inl (fun _ => 0)), .inl (cy 0, 7, .inl (fun _ => 0)), .inl (cy 0, 7, .inl (fun _ => 0)), .inr (0, [.int 0, .int 0]), .inl (cy 3, 128, .inl (fun _ => 0)), .inl (cy 0, 128, .inl (fun _ => 0)), .inl (cy 0, 128, .inl (fun _ => 0)), .inl (cy 0, 128, .inl (fun _ => 0)), .inl (cy 2, 128, .inr (.inl (fun _ => 0))), .inl (cy 2, 128, .inr (.inl (fun _ => 0))), .inl (cy 7, 4, .inr (.inr (.inr (.inr (fun j => some (h + 12 + 1 + j)))))), .inl (cy 0, 128, .inl (fun _ => 0)), .inl (cy 0, 128, .inl (fun _ => 0)), .inl (cy 0, 128, .inl (fun _ => 0)), .inl (cy 0, 128, .inl (fun _ => 0))]) B hi rfl rfl rfl (by decide) (Nat.le_of_ble_eq_true rfl) inG_X4 tyX4_ok nmX4 rfl kf_X4_53 rfl rfl rfl rfl rfl dX4_init_110 ?_
  exact b_ret B hr dX4_init_113 (by decide) (by decide) rfl
