/-! ===== the maker of the class ===== -/
def famA (cy : Nat → ClassId) (h f : Nat) : va_E := .inl (cy 4, 4, .inr (.inr (.inr (.inr (fun j => if j < f then some (h + (45 + 2 * j)) else none)))))
def patA (cy : Nat → ClassId) (h f : Nat) : va_E := .inl (cy 5, 6, .inr (.inr (.inr (.inr (fun j => if j < f then some (h + (53 + j)) else none)))))
def ordA (cy : Nat → ClassId) (h f : Nat) : va_E := .inl (cy 6, 7, .inr (.inr (.inr (.inr (fun j => if j < f then some (h + (59 + j)) else none)))))
def eGV0 (cy : Nat → ClassId) (h f p o : Nat) : List va_E := [.inr (8, [.ref (h + 1), .ref (h + 2), .ref (h + 3), .ref (h + 4), .ref (h + 8), .ref (h + 25), .ref (h + 35), .int 0, .int 0, .int 0, .int 0]), famA cy h f, patA cy h p, ordA cy h o, .inr (1, [.ref (h + 4 + 1), .int 0, .int 0, .int (-1), .ref (h + 4 + 3)]), .inr (7, [.int 0, .int 0, .int 0, .int 0, .ref (h + 4 + 1 + 1), .int 0]), .inl (cy 1, 500, .inl (fun _ => 0)), .inl (cy 0, 3, .inl (fun _ => 0)), .inr (4, [.int 0, .int 0, .ref (h + 8 + 1), .ref (h + 8 + 2), .ref (h + 8 + 3), .ref (h + 8 + 4), .int 0, .ref (h + 8 + 5), .ref (h + 8 + 6), .ref (h + 8 + 7), .ref (h + 8 + 8), .ref (h + 8 + 9), .ref (h + 8 + 10), .ref (h + 8 + 11), .ref (h + 8 + 12)]), .inl (cy 0, 7, .inl (fun _ => 0)), .inl (cy 0, 7, .inl (fun _ => 0)), .inl (cy 0, 7, .inl (fun _ => 0)), .inl (cy 0, 7, .inl (fun _ => 0)), .inr (0, [.int 0, .int 0]), .inl (cy 3, 128, .inl (fun _ => 0)), .inl (cy 0, 128, .inl (fun _ => 0)), .inl (cy 0, 128, .inl (fun _ => 0)), .inl (cy 0, 128, .inl (fun _ => 0)), .inl (cy 2, 128, .inr (.inl (fun _ => 0))), .inl (cy 2, 128, .inr (.inl (fun _ => 0))), .inl (cy 7, 4, .inr (.inr (.inr (.inr (fun j => some (h + 8 + 12 + 1 + j)))))), .inl (cy 0, 128, .inl (fun _ => 0)), .inl (cy 0, 128, .inl (fun _ => 0)), .inl (cy 0, 128, .inl (fun _ => 0)), .inl (cy 0, 128, .inl (fun _ => 0)), .inr (5, [.ref (h + 25 + 1), .ref (h + 25 + 2), .ref (h + 25 + 9)]), .inl (cy 0, 6, .inl (fun _ => -1)), .inl (cy 7, 6, .inr (.inr (.inr (.inr (fun j => some (h + 25 + 2 + 1 + j)))))), .inl (cy 0, 4, .inl (fun _ => -1)), .inl (cy 0, 4, .inl (fun _ => -1)), .inl (cy 0, 4, .inl (fun _ => -1)), .inl (cy 0, 4, .inl (fun _ => -1)), .inl (cy 0, 4, .inl (fun _ => -1)), .inl (cy 0, 4, .inl (fun _ => -1)), .inl (cy 2, 6, .inr (.inl (fun _ => 0))), .inr (5, [.ref (h + 35 + 1), .ref (h + 35 + 2), .ref (h + 35 + 9)]), .inl (cy 0, 6, .inl (fun _ => -1)), .inl (cy 7, 6, .inr (.inr (.inr (.inr (fun j => some (h + 35 + 2 + 1 + j)))))), .inl (cy 0, 4, .inl (fun _ => -1)), .inl (cy 0, 4, .inl (fun _ => -1)), .inl (cy 0, 4, .inl (fun _ => -1)), .inl (cy 0, 4, .inl (fun _ => -1)), .inl (cy 0, 4, .inl (fun _ => -1)), .inl (cy 0, 4, .inl (fun _ => -1)), .inl (cy 2, 6, .inr (.inl (fun _ => 0)))]
def famB (cy : Nat → ClassId) (h : Nat) : Nat → List va_E
  | 0 => []
  | f + 1 => famB cy h f ++ eFam cy (h + (45 + 2 * f)) (nI f)
def patB : Nat → List va_E
  | 0 => []
  | f + 1 => patB f ++ ePat
def ordB : Nat → List va_E
  | 0 => []
  | f + 1 => ordB f ++ eOrd (nI f)
theorem famB_len (cy : Nat → ClassId) (h : Nat) : ∀ f, (famB cy h f).length = 2 * f
  | 0 => rfl
  | f + 1 => by
    rw [famB, List.length_append, famB_len cy h f]
    show 2 * f + 2 = _
    omega
theorem patB_len : ∀ f, (patB f).length = f
  | 0 => rfl
  | f + 1 => by
    rw [patB, List.length_append, patB_len f]
    rfl
theorem ordB_len : ∀ f, (ordB f).length = f
  | 0 => rfl
  | f + 1 => by
    rw [ordB, List.length_append, ordB_len f]
    rfl
def eG (cy : Nat → ClassId) (h f p o : Nat) : List va_E := eGV0 cy h f p o ++ (famB cy h f ++ (patB p ++ ordB o))
theorem eG_len (cy : Nat → ClassId) (h f p o : Nat) : (eG cy h f p o).length = 45 + 2 * f + p + o := by
  unfold eG
  rw [List.length_append, List.length_append, List.length_append, famB_len, patB_len, ordB_len]
  show 45 + _ = _
  omega
def eGV (cy : Nat → ClassId) (h : Nat) : List va_E := eG cy h 4 6 7
theorem up_ref (n b : Nat) (g : Nat → Nat) {f : Nat} (hf : f < 2147483648) : va_up (fun j => if j < f then some (g j) else none) (nI f).toNatClampNeg (some (g f)) = fun j => if j < f + 1 then some (g j) else none := by
  rw [cl_k hf]
  funext j
  unfold va_up
  by_cases e : j = f
  · subst e
    rw [if_pos rfl, if_pos (by omega)]
  · rw [if_neg e]
    dsimp only
    by_cases q : j < f
    · rw [if_pos q, if_pos (by omega)]
    · rw [if_neg q, if_neg (by omega)]
theorem at_end {E F : List va_E} {x : va_E} {k : Nat} (h : E.length = k) : (E ++ x :: F)[k]? = some x := by
  subst h
  rw [List.getElem?_append_right (Nat.le_refl _), Nat.sub_self]
  rfl
theorem lF_step (cy : Nat → ClassId) (h i : Nat) (hi : i < 4) : (eG cy h i 0 0 ++ eFam cy (h + (45 + 2 * i)) (nI i)).set 1 (.inl (cy 4, 4, .inr (.inr (.inr (.inr (va_up (fun j => if j < i then some (h + (45 + 2 * j)) else none) (nI i).toNatClampNeg (some (h + (45 + 2 * i)))))))) ) = eG cy h (i + 1) 0 0 := by
  rw [up_ref 4 45 (fun j => h + (45 + 2 * j)) (by omega)]
  unfold eG
  rw [famB]
  simp only [patB, ordB, List.append_nil, List.append_assoc]
  rfl
theorem lP_step (cy : Nat → ClassId) (h i : Nat) (hi : i < 6) : (eG cy h 4 i 0 ++ ePat).set 2 (.inl (cy 5, 6, .inr (.inr (.inr (.inr (va_up (fun j => if j < i then some (h + (53 + j)) else none) (nI i).toNatClampNeg (some (h + (53 + i)))))))) ) = eG cy h 4 (i + 1) 0 := by
  rw [up_ref 6 53 (fun j => h + (53 + j)) (by omega)]
  unfold eG
  rw [patB]
  simp only [ordB, List.append_nil, List.append_assoc]
  rfl
theorem lO_step (cy : Nat → ClassId) (h i : Nat) (hi : i < 7) : (eG cy h 4 6 i ++ eOrd (nI i)).set 3 (.inl (cy 6, 7, .inr (.inr (.inr (.inr (va_up (fun j => if j < i then some (h + (59 + j)) else none) (nI i).toNatClampNeg (some (h + (59 + i)))))))) ) = eG cy h 4 6 (i + 1) := by
  rw [up_ref 7 59 (fun j => h + (59 + j)) (by omega)]
  unfold eG
  rw [ordB]
  simp only [List.append_assoc]
  rfl
def rmB_X8 : Room := { frames := 3, cells := 65, slots := 2269, locals := 120 }
theorem mi_X8_init : MFI yX8_init cX8_init 2 0 := ⟨ki_X8_init, kn_X8, kc_X8_init, rfl, by decide +kernel⟩
set_option maxHeartbeats 4000000 in
set_option maxRecDepth 100000 in
theorem cb_X8_init {l : Launch} {D : va_G} {cy : Nat → ClassId} (h : Nat) : CtrB l yX8_init cX8_init 2 rmB_X8 D cy h [.ref h] (.inr (8, [.null, .null, .null, .null, .null, .null, .null, .int 0, .int 0, .int 0, .int 0])) (eGV cy h) 65 2269 := by
  refine CtrB.of RX8 (plainFor_of_name (by decide)) rfl rfl [(0, .ref h)] rfl (Nat.le_of_ble_eq_true rfl) (fun p e s m below meth c B hi hr => ?_)
  refine b_aload_n B dX8_init_0 0 rfl rfl ?_
  refine b_obj B km_X8_3 (by decide) (Nat.le_of_ble_eq_true rfl) dX8_init_1 ?_
  refine b_aload_n B dX8_init_4 0 rfl rfl ?_
  refine b_iconst (v := (4 : Int32)) B dX8_init_5 (by decide) ?_
  refine b_newq (t := 4) (N' := 4) (k := 1) B kl_X8_9 B.2.2.2.2.2.2.1.1 rfl (by decide) (by decide) (by decide) ⟨by decide, by decide⟩ dX8_init_6 rfl ?_
  refine b_putF (k := 0) (j := 0) (E' := [.inr (8, [.ref (h + 1), .null, .null, .null, .null, .null, .null, .int 0, .int 0, .int 0, .int 0]), .inl (cy 4, 4, .inr (.inr (.inr (.inr (fun _ => none)))))]) B hi rfl rfl rfl (by decide) (Nat.le_of_ble_eq_true rfl) inG_X8 tyX8_ok nmX8 rfl kf_X8_11 rfl rfl rfl rfl rfl dX8_init_9 ?_
  refine b_aload_n B dX8_init_12 0 rfl rfl ?_
  refine b_bipush (v := (6 : Int32)) B dX8_init_13 (by decide) ?_
  refine b_newq (t := 5) (N' := 6) (k := 2) B kl_X8_15 B.2.2.2.2.2.2.1.2.1 rfl (by decide) (by decide) (by decide) ⟨by decide, by decide⟩ dX8_init_15 rfl ?_
  refine b_putF (k := 0) (j := 1) (E' := [.inr (8, [.ref (h + 1), .ref (h + 2), .null, .null, .null, .null, .null, .int 0, .int 0, .int 0, .int 0]), .inl (cy 4, 4, .inr (.inr (.inr (.inr (fun _ => none))))), .inl (cy 5, 6, .inr (.inr (.inr (.inr (fun _ => none)))))]) B hi rfl rfl rfl (by decide) (Nat.le_of_ble_eq_true rfl) inG_X8 tyX8_ok nmX8 rfl kf_X8_17 rfl rfl rfl rfl rfl dX8_init_18 ?_
  refine b_aload_n B dX8_init_21 0 rfl rfl ?_
  refine b_bipush (v := (7 : Int32)) B dX8_init_22 (by decide) ?_
  refine b_newq (t := 6) (N' := 7) (k := 3) B kl_X8_21 B.2.2.2.2.2.2.1.2.2.1 rfl (by decide) (by decide) (by decide) ⟨by decide, by decide⟩ dX8_init_24 rfl ?_
  refine b_putF (k := 0) (j := 2) (E' := [.inr (8, [.ref (h + 1), .ref (h + 2), .ref (h + 3), .null, .null, .null, .null, .int 0, .int 0, .int 0, .int 0]), .inl (cy 4, 4, .inr (.inr (.inr (.inr (fun _ => none))))), .inl (cy 5, 6, .inr (.inr (.inr (.inr (fun _ => none))))), .inl (cy 6, 7, .inr (.inr (.inr (.inr (fun _ => none)))))]) B hi rfl rfl rfl (by decide) (Nat.le_of_ble_eq_true rfl) inG_X8 tyX8_ok nmX8 rfl kf_X8_23 rfl rfl rfl rfl rfl dX8_init_27 ?_
  refine b_aload_n B dX8_init_30 0 rfl rfl ?_
  refine b_new (ci := 1) (N := 5) (fs := [.null, .int 0, .int 0, .int 0, .null]) (k := 4) B inG_X1 tyX1_ok kl_X8_27 ka_X1 kn_X1 rfl (by decide) ⟨by decide, by decide⟩ dX8_init_31 rfl ?_
  refine b_dup B dX8_init_34 rfl ?_
  refine b_initN (k := 4) (E0 := [.inr (8, [.ref (h + 1), .ref (h + 2), .ref (h + 3), .null, .null, .null, .null, .int 0, .int 0, .int 0, .int 0]), .inl (cy 4, 4, .inr (.inr (.inr (.inr (fun _ => none))))), .inl (cy 5, 6, .inr (.inr (.inr (.inr (fun _ => none))))), .inl (cy 6, 7, .inr (.inr (.inr (.inr (fun _ => none)))))]) (E1 := eReader cy (h + 4)) (E' := [.inr (8, [.ref (h + 1), .ref (h + 2), .ref (h + 3), .null, .null, .null, .null, .int 0, .int 0, .int 0, .int 0]), .inl (cy 4, 4, .inr (.inr (.inr (.inr (fun _ => none))))), .inl (cy 5, 6, .inr (.inr (.inr (.inr (fun _ => none))))), .inl (cy 6, 7, .inr (.inr (.inr (.inr (fun _ => none))))), .inr (1, [.ref (h + 4 + 1), .int 0, .int 0, .int (-1), .ref (h + 4 + 3)]), .inr (7, [.int 0, .int 0, .int 0, .int 0, .ref (h + 4 + 1 + 1), .int 0]), .inl (cy 1, 500, .inl (fun _ => 0)), .inl (cy 0, 3, .inl (fun _ => 0))]) (rest := [.ref (h + 4), .ref h]) (As := []) B (cb_X1_init (h + 4)) mi_X1_init (by decide) rfl rfl rfl ⟨by decide, by decide⟩ ⟨rfl, rfl⟩ rfl rfl (Nat.le_of_ble_eq_true rfl) ⟨by decide, by decide⟩ dX8_init_35 rfl ?_
  refine b_putF (k := 0) (j := 3) (E' := [.inr (8, [.ref (h + 1), .ref (h + 2), .ref (h + 3), .ref (h + 4), .null, .null, .null, .int 0, .int 0, .int 0, .int 0]), .inl (cy 4, 4, .inr (.inr (.inr (.inr (fun _ => none))))), .inl (cy 5, 6, .inr (.inr (.inr (.inr (fun _ => none))))), .inl (cy 6, 7, .inr (.inr (.inr (.inr (fun _ => none))))), .inr (1, [.ref (h + 4 + 1), .int 0, .int 0, .int (-1), .ref (h + 4 + 3)]), .inr (7, [.int 0, .int 0, .int 0, .int 0, .ref (h + 4 + 1 + 1), .int 0]), .inl (cy 1, 500, .inl (fun _ => 0)), .inl (cy 0, 3, .inl (fun _ => 0))]) B hi rfl rfl rfl (by decide) (Nat.le_of_ble_eq_true rfl) inG_X8 tyX8_ok nmX8 rfl kf_X8_30 rfl rfl rfl rfl rfl dX8_init_38 ?_
  refine b_aload_n B dX8_init_41 0 rfl rfl ?_
  refine b_new (ci := 4) (N := 15) (fs := [.int 0, .int 0, .null, .null, .null, .null, .int 0, .null, .null, .null, .null, .null, .null, .null, .null]) (k := 8) B inG_X4 tyX4_ok kl_X8_34 ka_X4 kn_X4 rfl (by decide) ⟨by decide, by decide⟩ dX8_init_42 rfl ?_
  refine b_dup B dX8_init_45 rfl ?_
  refine b_initN (k := 8) (E0 := [.inr (8, [.ref (h + 1), .ref (h + 2), .ref (h + 3), .ref (h + 4), .null, .null, .null, .int 0, .int 0, .int 0, .int 0]), .inl (cy 4, 4, .inr (.inr (.inr (.inr (fun _ => none))))), .inl (cy 5, 6, .inr (.inr (.inr (.inr (fun _ => none))))), .inl (cy 6, 7, .inr (.inr (.inr (.inr (fun _ => none))))), .inr (1, [.ref (h + 4 + 1), .int 0, .int 0, .int (-1), .ref (h + 4 + 3)]), .inr (7, [.int 0, .int 0, .int 0, .int 0, .ref (h + 4 + 1 + 1), .int 0]), .inl (cy 1, 500, .inl (fun _ => 0)), .inl (cy 0, 3, .inl (fun _ => 0))]) (E1 := ePlan cy (h + 8)) (E' := [.inr (8, [.ref (h + 1), .ref (h + 2), .ref (h + 3), .ref (h + 4), .null, .null, .null, .int 0, .int 0, .int 0, .int 0]), .inl (cy 4, 4, .inr (.inr (.inr (.inr (fun _ => none))))), .inl (cy 5, 6, .inr (.inr (.inr (.inr (fun _ => none))))), .inl (cy 6, 7, .inr (.inr (.inr (.inr (fun _ => none))))), .inr (1, [.ref (h + 4 + 1), .int 0, .int 0, .int (-1), .ref (h + 4 + 3)]), .inr (7, [.int 0, .int 0, .int 0, .int 0, .ref (h + 4 + 1 + 1), .int 0]), .inl (cy 1, 500, .inl (fun _ => 0)), .inl (cy 0, 3, .inl (fun _ => 0)), .inr (4, [.int 0, .int 0, .ref (h + 8 + 1), .ref (h + 8 + 2), .ref (h + 8 + 3), .ref (h + 8 + 4), .int 0, .ref (h + 8 + 5), .ref (h + 8 + 6), .ref (h + 8 + 7), .ref (h + 8 + 8), .ref (h + 8 + 9), .ref (h + 8 + 10), .ref (h + 8 + 11), .ref (h + 8 + 12)]), .inl (cy 0, 7, .inl (fun _ => 0)), .inl (cy 0, 7, .inl (fun _ => 0)), .inl (cy 0, 7, .inl (fun _ => 0)), .inl (cy 0, 7, .inl (fun _ => 0)), .inr (0, [.int 0, .int 0]), .inl (cy 3, 128, .inl (fun _ => 0)), .inl (cy 0, 128, .inl (fun _ => 0)), .inl (cy 0, 128, .inl (fun _ => 0)), .inl (cy 0, 128, .inl (fun _ => 0)), .inl (cy 2, 128, .inr (.inl (fun _ => 0))), .inl (cy 2, 128, .inr (.inl (fun _ => 0))), .inl (cy 7, 4, .inr (.inr (.inr (.inr (fun j => some (h + 8 + 12 + 1 + j)))))), .inl (cy 0, 128, .inl (fun _ => 0)), .inl (cy 0, 128, .inl (fun _ => 0)), .inl (cy 0, 128, .inl (fun _ => 0)), .inl (cy 0, 128, .inl (fun _ => 0))]) (rest := [.ref (h + 8), .ref h]) (As := []) B (cb_X4_init (h + 8)) mi_X4_init (by decide) rfl rfl rfl ⟨by decide, by decide⟩ ⟨rfl, rfl⟩ rfl rfl (Nat.le_of_ble_eq_true rfl) ⟨by decide, by decide⟩ dX8_init_46 rfl ?_
  refine b_putF (k := 0) (j := 4) (E' := [.inr (8, [.ref (h + 1), .ref (h + 2), .ref (h + 3), .ref (h + 4), .ref (h + 8), .null, .null, .int 0, .int 0, .int 0, .int 0]), .inl (cy 4, 4, .inr (.inr (.inr (.inr (fun _ => none))))), .inl (cy 5, 6, .inr (.inr (.inr (.inr (fun _ => none))))), .inl (cy 6, 7, .inr (.inr (.inr (.inr (fun _ => none))))), .inr (1, [.ref (h + 4 + 1), .int 0, .int 0, .int (-1), .ref (h + 4 + 3)]), .inr (7, [.int 0, .int 0, .int 0, .int 0, .ref (h + 4 + 1 + 1), .int 0]), .inl (cy 1, 500, .inl (fun _ => 0)), .inl (cy 0, 3, .inl (fun _ => 0)), .inr (4, [.int 0, .int 0, .ref (h + 8 + 1), .ref (h + 8 + 2), .ref (h + 8 + 3), .ref (h + 8 + 4), .int 0, .ref (h + 8 + 5), .ref (h + 8 + 6), .ref (h + 8 + 7), .ref (h + 8 + 8), .ref (h + 8 + 9), .ref (h + 8 + 10), .ref (h + 8 + 11), .ref (h + 8 + 12)]), .inl (cy 0, 7, .inl (fun _ => 0)), .inl (cy 0, 7, .inl (fun _ => 0)), .inl (cy 0, 7, .inl (fun _ => 0)), .inl (cy 0, 7, .inl (fun _ => 0)), .inr (0, [.int 0, .int 0]), .inl (cy 3, 128, .inl (fun _ => 0)), .inl (cy 0, 128, .inl (fun _ => 0)), .inl (cy 0, 128, .inl (fun _ => 0)), .inl (cy 0, 128, .inl (fun _ => 0)), .inl (cy 2, 128, .inr (.inl (fun _ => 0))), .inl (cy 2, 128, .inr (.inl (fun _ => 0))), .inl (cy 7, 4, .inr (.inr (.inr (.inr (fun j => some (h + 8 + 12 + 1 + j)))))), .inl (cy 0, 128, .inl (fun _ => 0)), .inl (cy 0, 128, .inl (fun _ => 0)), .inl (cy 0, 128, .inl (fun _ => 0)), .inl (cy 0, 128, .inl (fun _ => 0))]) B hi rfl rfl rfl (by decide) (Nat.le_of_ble_eq_true rfl) inG_X8 tyX8_ok nmX8 rfl kf_X8_37 rfl rfl rfl rfl rfl dX8_init_49 ?_
  refine b_aload_n B dX8_init_52 0 rfl rfl ?_
  refine b_new (ci := 5) (N := 3) (fs := [.null, .null, .null]) (k := 25) B inG_X5 tyX5_ok kl_X8_41 ka_X5 kn_X5 rfl (by decide) ⟨by decide, by decide⟩ dX8_init_53 rfl ?_
  refine b_dup B dX8_init_56 rfl ?_
  refine b_initL (k := 25) (E0 := [.inr (8, [.ref (h + 1), .ref (h + 2), .ref (h + 3), .ref (h + 4), .ref (h + 8), .null, .null, .int 0, .int 0, .int 0, .int 0]), .inl (cy 4, 4, .inr (.inr (.inr (.inr (fun _ => none))))), .inl (cy 5, 6, .inr (.inr (.inr (.inr (fun _ => none))))), .inl (cy 6, 7, .inr (.inr (.inr (.inr (fun _ => none))))), .inr (1, [.ref (h + 4 + 1), .int 0, .int 0, .int (-1), .ref (h + 4 + 3)]), .inr (7, [.int 0, .int 0, .int 0, .int 0, .ref (h + 4 + 1 + 1), .int 0]), .inl (cy 1, 500, .inl (fun _ => 0)), .inl (cy 0, 3, .inl (fun _ => 0)), .inr (4, [.int 0, .int 0, .ref (h + 8 + 1), .ref (h + 8 + 2), .ref (h + 8 + 3), .ref (h + 8 + 4), .int 0, .ref (h + 8 + 5), .ref (h + 8 + 6), .ref (h + 8 + 7), .ref (h + 8 + 8), .ref (h + 8 + 9), .ref (h + 8 + 10), .ref (h + 8 + 11), .ref (h + 8 + 12)]), .inl (cy 0, 7, .inl (fun _ => 0)), .inl (cy 0, 7, .inl (fun _ => 0)), .inl (cy 0, 7, .inl (fun _ => 0)), .inl (cy 0, 7, .inl (fun _ => 0)), .inr (0, [.int 0, .int 0]), .inl (cy 3, 128, .inl (fun _ => 0)), .inl (cy 0, 128, .inl (fun _ => 0)), .inl (cy 0, 128, .inl (fun _ => 0)), .inl (cy 0, 128, .inl (fun _ => 0)), .inl (cy 2, 128, .inr (.inl (fun _ => 0))), .inl (cy 2, 128, .inr (.inl (fun _ => 0))), .inl (cy 7, 4, .inr (.inr (.inr (.inr (fun j => some (h + 8 + 12 + 1 + j)))))), .inl (cy 0, 128, .inl (fun _ => 0)), .inl (cy 0, 128, .inl (fun _ => 0)), .inl (cy 0, 128, .inl (fun _ => 0)), .inl (cy 0, 128, .inl (fun _ => 0))]) (E1 := eRights cy (h + 25)) (E' := [.inr (8, [.ref (h + 1), .ref (h + 2), .ref (h + 3), .ref (h + 4), .ref (h + 8), .null, .null, .int 0, .int 0, .int 0, .int 0]), .inl (cy 4, 4, .inr (.inr (.inr (.inr (fun _ => none))))), .inl (cy 5, 6, .inr (.inr (.inr (.inr (fun _ => none))))), .inl (cy 6, 7, .inr (.inr (.inr (.inr (fun _ => none))))), .inr (1, [.ref (h + 4 + 1), .int 0, .int 0, .int (-1), .ref (h + 4 + 3)]), .inr (7, [.int 0, .int 0, .int 0, .int 0, .ref (h + 4 + 1 + 1), .int 0]), .inl (cy 1, 500, .inl (fun _ => 0)), .inl (cy 0, 3, .inl (fun _ => 0)), .inr (4, [.int 0, .int 0, .ref (h + 8 + 1), .ref (h + 8 + 2), .ref (h + 8 + 3), .ref (h + 8 + 4), .int 0, .ref (h + 8 + 5), .ref (h + 8 + 6), .ref (h + 8 + 7), .ref (h + 8 + 8), .ref (h + 8 + 9), .ref (h + 8 + 10), .ref (h + 8 + 11), .ref (h + 8 + 12)]), .inl (cy 0, 7, .inl (fun _ => 0)), .inl (cy 0, 7, .inl (fun _ => 0)), .inl (cy 0, 7, .inl (fun _ => 0)), .inl (cy 0, 7, .inl (fun _ => 0)), .inr (0, [.int 0, .int 0]), .inl (cy 3, 128, .inl (fun _ => 0)), .inl (cy 0, 128, .inl (fun _ => 0)), .inl (cy 0, 128, .inl (fun _ => 0)), .inl (cy 0, 128, .inl (fun _ => 0)), .inl (cy 2, 128, .inr (.inl (fun _ => 0))), .inl (cy 2, 128, .inr (.inl (fun _ => 0))), .inl (cy 7, 4, .inr (.inr (.inr (.inr (fun j => some (h + 8 + 12 + 1 + j)))))), .inl (cy 0, 128, .inl (fun _ => 0)), .inl (cy 0, 128, .inl (fun _ => 0)), .inl (cy 0, 128, .inl (fun _ => 0)), .inl (cy 0, 128, .inl (fun _ => 0)), .inr (5, [.ref (h + 25 + 1), .ref (h + 25 + 2), .ref (h + 25 + 9)]), .inl (cy 0, 6, .inl (fun _ => -1)), .inl (cy 7, 6, .inr (.inr (.inr (.inr (fun j => some (h + 25 + 2 + 1 + j)))))), .inl (cy 0, 4, .inl (fun _ => -1)), .inl (cy 0, 4, .inl (fun _ => -1)), .inl (cy 0, 4, .inl (fun _ => -1)), .inl (cy 0, 4, .inl (fun _ => -1)), .inl (cy 0, 4, .inl (fun _ => -1)), .inl (cy 0, 4, .inl (fun _ => -1)), .inl (cy 2, 6, .inr (.inl (fun _ => 0)))]) (rest := [.ref (h + 25), .ref h]) (As := []) B (cb_X5_init (h + 25)) mi_X5_init km_X8_43 rfl rfl rfl ⟨by decide, by decide⟩ ⟨rfl, rfl⟩ rfl rfl (Nat.le_of_ble_eq_true rfl) ⟨by decide, by decide⟩ dX8_init_57 rfl ?_
  refine b_put (k := 0) (j := 5) (E' := [.inr (8, [.ref (h + 1), .ref (h + 2), .ref (h + 3), .ref (h + 4), .ref (h + 8), .ref (h + 25), .null, .int 0, .int 0, .int 0, .int 0]), .inl (cy 4, 4, .inr (.inr (.inr (.inr (fun _ => none))))), .inl (cy 5, 6, .inr (.inr (.inr (.inr (fun _ => none))))), .inl (cy 6, 7, .inr (.inr (.inr (.inr (fun _ => none))))), .inr (1, [.ref (h + 4 + 1), .int 0, .int 0, .int (-1), .ref (h + 4 + 3)]), .inr (7, [.int 0, .int 0, .int 0, .int 0, .ref (h + 4 + 1 + 1), .int 0]), .inl (cy 1, 500, .inl (fun _ => 0)), .inl (cy 0, 3, .inl (fun _ => 0)), .inr (4, [.int 0, .int 0, .ref (h + 8 + 1), .ref (h + 8 + 2), .ref (h + 8 + 3), .ref (h + 8 + 4), .int 0, .ref (h + 8 + 5), .ref (h + 8 + 6), .ref (h + 8 + 7), .ref (h + 8 + 8), .ref (h + 8 + 9), .ref (h + 8 + 10), .ref (h + 8 + 11), .ref (h + 8 + 12)]), .inl (cy 0, 7, .inl (fun _ => 0)), .inl (cy 0, 7, .inl (fun _ => 0)), .inl (cy 0, 7, .inl (fun _ => 0)), .inl (cy 0, 7, .inl (fun _ => 0)), .inr (0, [.int 0, .int 0]), .inl (cy 3, 128, .inl (fun _ => 0)), .inl (cy 0, 128, .inl (fun _ => 0)), .inl (cy 0, 128, .inl (fun _ => 0)), .inl (cy 0, 128, .inl (fun _ => 0)), .inl (cy 2, 128, .inr (.inl (fun _ => 0))), .inl (cy 2, 128, .inr (.inl (fun _ => 0))), .inl (cy 7, 4, .inr (.inr (.inr (.inr (fun j => some (h + 8 + 12 + 1 + j)))))), .inl (cy 0, 128, .inl (fun _ => 0)), .inl (cy 0, 128, .inl (fun _ => 0)), .inl (cy 0, 128, .inl (fun _ => 0)), .inl (cy 0, 128, .inl (fun _ => 0)), .inr (5, [.ref (h + 25 + 1), .ref (h + 25 + 2), .ref (h + 25 + 9)]), .inl (cy 0, 6, .inl (fun _ => -1)), .inl (cy 7, 6, .inr (.inr (.inr (.inr (fun j => some (h + 25 + 2 + 1 + j)))))), .inl (cy 0, 4, .inl (fun _ => -1)), .inl (cy 0, 4, .inl (fun _ => -1)), .inl (cy 0, 4, .inl (fun _ => -1)), .inl (cy 0, 4, .inl (fun _ => -1)), .inl (cy 0, 4, .inl (fun _ => -1)), .inl (cy 0, 4, .inl (fun _ => -1)), .inl (cy 2, 6, .inr (.inl (fun _ => 0)))]) B rfl rfl rfl (by decide) (Nat.le_of_ble_eq_true rfl) inG_X8 tyX8_ok nmX8 rfl kf_X8_44 rfl rfl rfl rfl dX8_init_60 ?_
  refine b_aload_n B dX8_init_63 0 rfl rfl ?_
  refine b_new (ci := 5) (N := 3) (fs := [.null, .null, .null]) (k := 35) B inG_X5 tyX5_ok kl_X8_41 ka_X5 kn_X5 rfl (by decide) ⟨by decide, by decide⟩ dX8_init_64 rfl ?_
  refine b_dup B dX8_init_67 rfl ?_
  refine b_initL (k := 35) (E0 := [.inr (8, [.ref (h + 1), .ref (h + 2), .ref (h + 3), .ref (h + 4), .ref (h + 8), .ref (h + 25), .null, .int 0, .int 0, .int 0, .int 0]), .inl (cy 4, 4, .inr (.inr (.inr (.inr (fun _ => none))))), .inl (cy 5, 6, .inr (.inr (.inr (.inr (fun _ => none))))), .inl (cy 6, 7, .inr (.inr (.inr (.inr (fun _ => none))))), .inr (1, [.ref (h + 4 + 1), .int 0, .int 0, .int (-1), .ref (h + 4 + 3)]), .inr (7, [.int 0, .int 0, .int 0, .int 0, .ref (h + 4 + 1 + 1), .int 0]), .inl (cy 1, 500, .inl (fun _ => 0)), .inl (cy 0, 3, .inl (fun _ => 0)), .inr (4, [.int 0, .int 0, .ref (h + 8 + 1), .ref (h + 8 + 2), .ref (h + 8 + 3), .ref (h + 8 + 4), .int 0, .ref (h + 8 + 5), .ref (h + 8 + 6), .ref (h + 8 + 7), .ref (h + 8 + 8), .ref (h + 8 + 9), .ref (h + 8 + 10), .ref (h + 8 + 11), .ref (h + 8 + 12)]), .inl (cy 0, 7, .inl (fun _ => 0)), .inl (cy 0, 7, .inl (fun _ => 0)), .inl (cy 0, 7, .inl (fun _ => 0)), .inl (cy 0, 7, .inl (fun _ => 0)), .inr (0, [.int 0, .int 0]), .inl (cy 3, 128, .inl (fun _ => 0)), .inl (cy 0, 128, .inl (fun _ => 0)), .inl (cy 0, 128, .inl (fun _ => 0)), .inl (cy 0, 128, .inl (fun _ => 0)), .inl (cy 2, 128, .inr (.inl (fun _ => 0))), .inl (cy 2, 128, .inr (.inl (fun _ => 0))), .inl (cy 7, 4, .inr (.inr (.inr (.inr (fun j => some (h + 8 + 12 + 1 + j)))))), .inl (cy 0, 128, .inl (fun _ => 0)), .inl (cy 0, 128, .inl (fun _ => 0)), .inl (cy 0, 128, .inl (fun _ => 0)), .inl (cy 0, 128, .inl (fun _ => 0)), .inr (5, [.ref (h + 25 + 1), .ref (h + 25 + 2), .ref (h + 25 + 9)]), .inl (cy 0, 6, .inl (fun _ => -1)), .inl (cy 7, 6, .inr (.inr (.inr (.inr (fun j => some (h + 25 + 2 + 1 + j)))))), .inl (cy 0, 4, .inl (fun _ => -1)), .inl (cy 0, 4, .inl (fun _ => -1)), .inl (cy 0, 4, .inl (fun _ => -1)), .inl (cy 0, 4, .inl (fun _ => -1)), .inl (cy 0, 4, .inl (fun _ => -1)), .inl (cy 0, 4, .inl (fun _ => -1)), .inl (cy 2, 6, .inr (.inl (fun _ => 0)))]) (E1 := eRights cy (h + 35)) (E' := [.inr (8, [.ref (h + 1), .ref (h + 2), .ref (h + 3), .ref (h + 4), .ref (h + 8), .ref (h + 25), .null, .int 0, .int 0, .int 0, .int 0]), .inl (cy 4, 4, .inr (.inr (.inr (.inr (fun _ => none))))), .inl (cy 5, 6, .inr (.inr (.inr (.inr (fun _ => none))))), .inl (cy 6, 7, .inr (.inr (.inr (.inr (fun _ => none))))), .inr (1, [.ref (h + 4 + 1), .int 0, .int 0, .int (-1), .ref (h + 4 + 3)]), .inr (7, [.int 0, .int 0, .int 0, .int 0, .ref (h + 4 + 1 + 1), .int 0]), .inl (cy 1, 500, .inl (fun _ => 0)), .inl (cy 0, 3, .inl (fun _ => 0)), .inr (4, [.int 0, .int 0, .ref (h + 8 + 1), .ref (h + 8 + 2), .ref (h + 8 + 3), .ref (h + 8 + 4), .int 0, .ref (h + 8 + 5), .ref (h + 8 + 6), .ref (h + 8 + 7), .ref (h + 8 + 8), .ref (h + 8 + 9), .ref (h + 8 + 10), .ref (h + 8 + 11), .ref (h + 8 + 12)]), .inl (cy 0, 7, .inl (fun _ => 0)), .inl (cy 0, 7, .inl (fun _ => 0)), .inl (cy 0, 7, .inl (fun _ => 0)), .inl (cy 0, 7, .inl (fun _ => 0)), .inr (0, [.int 0, .int 0]), .inl (cy 3, 128, .inl (fun _ => 0)), .inl (cy 0, 128, .inl (fun _ => 0)), .inl (cy 0, 128, .inl (fun _ => 0)), .inl (cy 0, 128, .inl (fun _ => 0)), .inl (cy 2, 128, .inr (.inl (fun _ => 0))), .inl (cy 2, 128, .inr (.inl (fun _ => 0))), .inl (cy 7, 4, .inr (.inr (.inr (.inr (fun j => some (h + 8 + 12 + 1 + j)))))), .inl (cy 0, 128, .inl (fun _ => 0)), .inl (cy 0, 128, .inl (fun _ => 0)), .inl (cy 0, 128, .inl (fun _ => 0)), .inl (cy 0, 128, .inl (fun _ => 0)), .inr (5, [.ref (h + 25 + 1), .ref (h + 25 + 2), .ref (h + 25 + 9)]), .inl (cy 0, 6, .inl (fun _ => -1)), .inl (cy 7, 6, .inr (.inr (.inr (.inr (fun j => some (h + 25 + 2 + 1 + j)))))), .inl (cy 0, 4, .inl (fun _ => -1)), .inl (cy 0, 4, .inl (fun _ => -1)), .inl (cy 0, 4, .inl (fun _ => -1)), .inl (cy 0, 4, .inl (fun _ => -1)), .inl (cy 0, 4, .inl (fun _ => -1)), .inl (cy 0, 4, .inl (fun _ => -1)), .inl (cy 2, 6, .inr (.inl (fun _ => 0))), .inr (5, [.ref (h + 35 + 1), .ref (h + 35 + 2), .ref (h + 35 + 9)]), .inl (cy 0, 6, .inl (fun _ => -1)), .inl (cy 7, 6, .inr (.inr (.inr (.inr (fun j => some (h + 35 + 2 + 1 + j)))))), .inl (cy 0, 4, .inl (fun _ => -1)), .inl (cy 0, 4, .inl (fun _ => -1)), .inl (cy 0, 4, .inl (fun _ => -1)), .inl (cy 0, 4, .inl (fun _ => -1)), .inl (cy 0, 4, .inl (fun _ => -1)), .inl (cy 0, 4, .inl (fun _ => -1)), .inl (cy 2, 6, .inr (.inl (fun _ => 0)))]) (rest := [.ref (h + 35), .ref h]) (As := []) B (cb_X5_init (h + 35)) mi_X5_init km_X8_43 rfl rfl rfl ⟨by decide, by decide⟩ ⟨rfl, rfl⟩ rfl rfl (Nat.le_of_ble_eq_true rfl) ⟨by decide, by decide⟩ dX8_init_68 rfl ?_
  refine b_put (k := 0) (j := 6) (E' := eG cy h 0 0 0) B rfl rfl rfl (by decide) (Nat.le_of_ble_eq_true rfl) inG_X8 tyX8_ok nmX8 rfl kf_X8_48 rfl rfl rfl rfl dX8_init_71 ?_
  refine b_cn (cn' := (44 + 2 * 0 + 0 + 0)) (sn' := (1950 + 56 * 0 + 3 * 0 + 11 * 0)) (by decide) (by decide) ?_
  have lO : ∀ (mm i : Nat), i + mm = 7 → BW p l e rmB_X8 s m [Value.ref h].toArray below meth c (MQ below (QB D h (eGV cy h)) [Value.ref h].toArray s 65 2269 (fun q => h ≤ q)) D h (44 + 2 * 4 + 6 + i) (1950 + 56 * 4 + 3 * 6 + 11 * i) 2 130 [(1, .int (nI i)), (0, .ref h)] [] (eG cy h 4 6 i) := by
    intro mm
    induction mm with
    | zero =>
      intro i hi2
      have ei : i = 7 := by omega
      subst ei
      refine b_iload_n B dX8_init_130 0 rfl rfl ?_
      refine b_bipush (v := nI 7) B dX8_init_131 (by decide) ?_
      refine b_icmp_ge B 156 dX8_init_133 (by decide) (fun _ => ?_) (fun q => absurd (Int32.le_refl _) q)
      exact b_ret B hr dX8_init_156 (by decide) (by decide) rfl
    | succ mm ih =>
      intro i hi2
      refine b_iload_n B dX8_init_130 0 rfl rfl ?_
      refine b_bipush (v := nI 7) B dX8_init_131 (by decide) ?_
      refine b_icmp_ge B 156 dX8_init_133 (by decide) (fun q => absurd q (by rw [nI_leI (by omega) (by omega)]; omega)) (fun _ => ?_)
      refine b_aload_n B dX8_init_136 1 rfl rfl ?_
      refine b_get (k := 0) (j := 2) B rfl rfl rfl (by decide) rfl inG_X8 rfl kf_X8_23 dX8_init_137 ?_
      refine b_iload_n B dX8_init_140 0 rfl rfl ?_
      have hlen : (eG cy h 4 6 i).length = 59 + i := by have := eG_len cy h 4 6 i; omega
      refine b_new (ci := 6) (N := 11) (fs := [.int 0, .int 0, .int 0, .int 0, .int 0, .int 0, .int 0, .int 0, .int 0, .int 0, .int 0]) (k := (59 + i)) B inG_X6 tyX6_ok kl_X8_21 ka_X6 kn_X6 rfl (by decide) ⟨by show _ ≤ 65; omega, by show _ ≤ 2269; omega⟩ dX8_init_141 hlen ?_
      refine b_dup B dX8_init_144 rfl ?_
      refine b_iload_n B dX8_init_145 0 rfl rfl ?_
      refine b_initL (k := (59 + i)) (E0 := eG cy h 4 6 i) (E1 := eOrd (nI i)) (E' := eG cy h 4 6 i ++ eOrd (nI i)) (rest := [.ref (h + (59 + i)), .int (nI i), .ref (h + 3)]) (As := [.int (nI i)]) B (cb_X6_init (h + (59 + i)) (nI i)) mi_X6_init km_X8_55 rfl hlen rfl ⟨by decide, by decide⟩ ⟨rfl, rfl⟩ rfl rfl (Nat.le_of_ble_eq_true rfl) ⟨by show _ ≤ 65; omega, by show _ ≤ 2269; omega⟩ dX8_init_146 rfl ?_
      refine b_astq (k := 3) (t := 6) (kv := (59 + i)) (ci := 6) (r := (RX6, TX6, 11)) (E' := eG cy h 4 6 (i + 1)) B rfl rfl rfl rfl (at_end hlen) rfl (inb_in (inb_k (by omega) (by decide))) ?_ dX8_init_149 ?_
      · exact lO_step cy h i (by omega)
      · refine b_iinc (k := 0) (v := nI (i + 1)) (lv' := [(1, .int (nI (i + 1))), (0, .ref h)]) B dX8_init_150 rfl (nI_1 i) (by decide) rfl ?_
        refine b_goto B 130 dX8_init_153 (by decide) ?_
        exact b_cn (by omega) (by omega) (ih (i + 1) (by omega))
  have lP : ∀ (mm i : Nat), i + mm = 6 → BW p l e rmB_X8 s m [Value.ref h].toArray below meth c (MQ below (QB D h (eGV cy h)) [Value.ref h].toArray s 65 2269 (fun q => h ≤ q)) D h (44 + 2 * 4 + i + 0) (1950 + 56 * 4 + 3 * i + 11 * 0) 2 103 [(1, .int (nI i)), (0, .ref h)] [] (eG cy h 4 i 0) := by
    intro mm
    induction mm with
    | zero =>
      intro i hi2
      have ei : i = 6 := by omega
      subst ei
      refine b_iload_n B dX8_init_103 0 rfl rfl ?_
      refine b_bipush (v := nI 6) B dX8_init_104 (by decide) ?_
      refine b_icmp_ge B 128 dX8_init_106 (by decide) (fun _ => ?_) (fun q => absurd (Int32.le_refl _) q)
      refine b_iconst (v := (0 : Int32)) B dX8_init_128 (by decide) ?_
      refine b_istore_n (lv' := [(1, .int (nI 0)), (0, .ref h)]) B dX8_init_129 rfl (by decide) rfl ?_
      exact lO 7 0 rfl
    | succ mm ih =>
      intro i hi2
      refine b_iload_n B dX8_init_103 0 rfl rfl ?_
      refine b_bipush (v := nI 6) B dX8_init_104 (by decide) ?_
      refine b_icmp_ge B 128 dX8_init_106 (by decide) (fun q => absurd q (by rw [nI_leI (by omega) (by omega)]; omega)) (fun _ => ?_)
      refine b_aload_n B dX8_init_109 1 rfl rfl ?_
      refine b_get (k := 0) (j := 1) B rfl rfl rfl (by decide) rfl inG_X8 rfl kf_X8_17 dX8_init_110 ?_
      refine b_iload_n B dX8_init_113 0 rfl rfl ?_
      have hlen : (eG cy h 4 i 0).length = 53 + i := by have := eG_len cy h 4 i 0; omega
      refine b_new (ci := 3) (N := 3) (fs := [.int 0, .int 0, .int 0]) (k := (53 + i)) B inG_X3 tyX3_ok kl_X8_15 ka_X3 kn_X3 rfl (by decide) ⟨by show _ ≤ 65; omega, by show _ ≤ 2269; omega⟩ dX8_init_114 hlen ?_
      refine b_dup B dX8_init_117 rfl ?_
      refine b_initN (k := (53 + i)) (E0 := eG cy h 4 i 0) (E1 := ePat) (E' := eG cy h 4 i 0 ++ ePat) (rest := [.ref (h + (53 + i)), .int (nI i), .ref (h + 2)]) (As := []) B (cb_X3_init (h + (53 + i))) mi_X3_init (by decide) rfl hlen rfl ⟨by decide, by decide⟩ ⟨rfl, rfl⟩ rfl rfl (Nat.le_of_ble_eq_true rfl) ⟨by show _ ≤ 65; omega, by show _ ≤ 2269; omega⟩ dX8_init_118 rfl ?_
      refine b_astq (k := 2) (t := 5) (kv := (53 + i)) (ci := 3) (r := (RX3, TX3, 3)) (E' := eG cy h 4 (i + 1) 0) B rfl rfl rfl rfl (at_end hlen) rfl (inb_in (inb_k (by omega) (by decide))) ?_ dX8_init_121 ?_
      · exact lP_step cy h i (by omega)
      · refine b_iinc (k := 0) (v := nI (i + 1)) (lv' := [(1, .int (nI (i + 1))), (0, .ref h)]) B dX8_init_122 rfl (nI_1 i) (by decide) rfl ?_
        refine b_goto B 103 dX8_init_125 (by decide) ?_
        exact b_cn (by omega) (by omega) (ih (i + 1) (by omega))
  have lF : ∀ (mm i : Nat), i + mm = 4 → BW p l e rmB_X8 s m [Value.ref h].toArray below meth c (MQ below (QB D h (eGV cy h)) [Value.ref h].toArray s 65 2269 (fun q => h ≤ q)) D h (44 + 2 * i + 0 + 0) (1950 + 56 * i + 3 * 0 + 11 * 0) 2 76 [(1, .int (nI i)), (0, .ref h)] [] (eG cy h i 0 0) := by
    intro mm
    induction mm with
    | zero =>
      intro i hi2
      have ei : i = 4 := by omega
      subst ei
      refine b_iload_n B dX8_init_76 0 rfl rfl ?_
      refine b_iconst (v := nI 4) B dX8_init_77 (by decide) ?_
      refine b_icmp_ge B 101 dX8_init_78 (by decide) (fun _ => ?_) (fun q => absurd (Int32.le_refl _) q)
      refine b_iconst (v := (0 : Int32)) B dX8_init_101 (by decide) ?_
      refine b_istore_n (lv' := [(1, .int (nI 0)), (0, .ref h)]) B dX8_init_102 rfl (by decide) rfl ?_
      exact lP 6 0 rfl
    | succ mm ih =>
      intro i hi2
      refine b_iload_n B dX8_init_76 0 rfl rfl ?_
      refine b_iconst (v := nI 4) B dX8_init_77 (by decide) ?_
      refine b_icmp_ge B 101 dX8_init_78 (by decide) (fun q => absurd q (by rw [nI_leI (by omega) (by omega)]; omega)) (fun _ => ?_)
      refine b_aload_n B dX8_init_81 1 rfl rfl ?_
      refine b_get (k := 0) (j := 0) B rfl rfl rfl (by decide) rfl inG_X8 rfl kf_X8_11 dX8_init_82 ?_
      refine b_iload_n B dX8_init_85 0 rfl rfl ?_
      have hlen : (eG cy h i 0 0).length = 45 + 2 * i := by have := eG_len cy h i 0 0; omega
      refine b_new (ci := 2) (N := 4) (fs := [.int 0, .null, .int 0, .int 0]) (k := (45 + 2 * i)) B inG_X2 tyX2_ok kl_X8_9 ka_X2 kn_X2 rfl (by decide) ⟨by show _ ≤ 65; omega, by show _ ≤ 2269; omega⟩ dX8_init_86 hlen ?_
      refine b_dup B dX8_init_89 rfl ?_
      refine b_iload_n B dX8_init_90 0 rfl rfl ?_
      refine b_initL (k := (45 + 2 * i)) (E0 := eG cy h i 0 0) (E1 := eFam cy (h + (45 + 2 * i)) (nI i)) (E' := eG cy h i 0 0 ++ eFam cy (h + (45 + 2 * i)) (nI i)) (rest := [.ref (h + (45 + 2 * i)), .int (nI i), .ref (h + 1)]) (As := [.int (nI i)]) B (cb_X2_init (h + (45 + 2 * i)) (nI i)) mi_X2_init km_X8_51 rfl hlen rfl ⟨by decide, by decide⟩ ⟨rfl, rfl⟩ rfl rfl (Nat.le_of_ble_eq_true rfl) ⟨by show _ ≤ 65; omega, by show _ ≤ 2269; omega⟩ dX8_init_91 rfl ?_
      refine b_astq (k := 1) (t := 4) (kv := (45 + 2 * i)) (ci := 2) (r := (RX2, TX2, 4)) (E' := eG cy h (i + 1) 0 0) B rfl rfl rfl rfl (at_end hlen) rfl (inb_in (inb_k (by omega) (by decide))) ?_ dX8_init_94 ?_
      · exact lF_step cy h i (by omega)
      · refine b_iinc (k := 0) (v := nI (i + 1)) (lv' := [(1, .int (nI (i + 1))), (0, .ref h)]) B dX8_init_95 rfl (nI_1 i) (by decide) rfl ?_
        refine b_goto B 76 dX8_init_98 (by decide) ?_
        exact b_cn (by omega) (by omega) (ih (i + 1) (by omega))
  refine b_iconst (v := (0 : Int32)) B dX8_init_74 (by decide) ?_
  refine b_istore_n (lv' := [(1, .int (nI 0)), (0, .ref h)]) B dX8_init_75 rfl (by decide) rfl ?_
  exact lF 4 0 rfl
