def rm_X9_counts : Room := { frames := 0, cells := 0, slots := 0, locals := 0 }
def f_X9_counts_14 (cs : List (Nat × Nat)) (N : Nat)  : Nat → Int32 → Int32 → Int32 → HS → Option (Unit × HS)
  | 0, _, _, _, _ => none
  | n + 1, v1, v2, v3, S =>
    ck (mc cs 30 0) (
    ck (mc cs 31 5) (
    ck (inb v2 6) (
    ck (mc cs 31 7) (
    ck (inb v1 7) (
    if (gi S 31 7 v1.toNatClampNeg) ≤ (v3 - (((v3 * (gi S 31 5 v2.toNatClampNeg)) + (99 : Int32)) / (100 : Int32))) then (
      ck (mc cs 31 10) (
      ck (inb v1 7) (
      lt_ (ui S 31 10 v1.toNatClampNeg v3) (fun S9 =>
      ck (mc cs 31 3) (
      ck (inb v2 6) (
      ck (mc cs 31 11) (
      ck (inb v1 7) (
      lt_ (ui S9 31 11 v1.toNatClampNeg (v3 * (gi S9 31 3 v2.toNatClampNeg))) (fun S15 =>
      ck (mc cs 31 4) (
      ck (inb v2 6) (
      ck (mc cs 31 12) (
      ck (inb v1 7) (
      lt_ (ui S15 31 12 v1.toNatClampNeg (v3 * (gi S15 31 4 v2.toNatClampNeg))) (fun S21 =>
      ck (mc cs 31 14) (
      ck (inb v1 7) (
      lt_ (ui S21 31 14 v1.toNatClampNeg (0 : Int32)) (fun S25 =>
      ck (mc cs 31 15) (
      ck (inb v1 7) (
      lt_ (ui S25 31 15 v1.toNatClampNeg (-1 : Int32)) (fun S29 =>
      some ((), S29)))))))))))))))))))))
    else (
      lt_ (v3 + (1 : Int32)) (fun x31 =>
      f_X9_counts_14 cs N n v1 v2 x31 S)))))))
set_option maxHeartbeats 4000000 in
set_option maxRecDepth 100000 in
theorem b_X9_counts_14 {p : Program} {l : Launch} {e : Env} {s : State} {m : MethodId} {args : Array Value} {below : List Frame} {meth : Method} {c : Code} {D : va_G} {cy : Nat → ClassId} {cs : List (Nat × Nat)} {ad : Nat → Nat → Nat} {Zp : State → Prop} {r : Unit} {Z : HS} (B : Bd p s m args meth c D cy cs ad Zp cX9_counts 4 RX9 none) (N : Nat)  : ∀ (n : Nat) (v1 : Int32) (v2 : Int32) (v3 : Int32) (S : HS), f_X9_counts_14 cs N n v1 v2 v3 S = some (r, Z) → GW p l e rm_X9_counts s m args below meth c (QM below args s D cy cs ad (none) Z) D cy cs ad 0 0 4 14 [(0, .ref (ad 30 0)), (1, .int v1), (2, .int v2), (3, .int v3)] [] S := by
  have hA := B.2.2.2.2.2.2.1
  have hZ := B.2.2.2.2.2.2.2.2.2.2
  intro n
  induction n with
  | zero => intro v1 v2 v3 S h; cases h
  | succ n ih =>
    intro v1 v2 v3 S h
    rw [f_X9_counts_14] at h
    refine g_iload_n B dX9_counts_14 3 rfl rfl ?_
    refine g_iload_n B dX9_counts_15 3 rfl rfl ?_
    refine g_aload_n B dX9_counts_16 0 rfl rfl ?_
    obtain ⟨m1, h⟩ := ck_e h
    refine gt_X9_8 B m1 kf_X9_25 dX9_counts_17 ?_
    refine g_iload_n B dX9_counts_20 2 rfl rfl ?_
    obtain ⟨m2, h⟩ := ck_e h
    obtain ⟨b3, h⟩ := ck_e h
    refine g_iald (n := 6) B m2 (fun _ => rfl) b3 dX9_counts_21 ?_
    refine g_imul B dX9_counts_22 ?_
    refine g_bipush (v := (99 : Int32)) B dX9_counts_23 (by decide) ?_
    refine g_iadd B dX9_counts_25 ?_
    refine g_bipush (v := (100 : Int32)) B dX9_counts_26 (by decide) ?_
    refine g_idiv B dX9_counts_28 (by decide) ?_
    refine g_isub B dX9_counts_29 ?_
    refine g_aload_n B dX9_counts_30 0 rfl rfl ?_
    refine gt_X9_10 B m1 kf_X9_31 dX9_counts_31 ?_
    refine g_iload_n B dX9_counts_34 1 rfl rfl ?_
    obtain ⟨m4, h⟩ := ck_e h
    obtain ⟨b5, h⟩ := ck_e h
    refine g_iald (n := 7) B m4 (fun _ => rfl) b5 dX9_counts_35 ?_
    refine g_icmp_ge B 45 dX9_counts_36 (by decide) (fun q6 => ?_) (fun q6 => ?_)
    · have h := if_t h q6
      refine g_aload_n B dX9_counts_45 0 rfl rfl ?_
      refine gt_X9_13 B m1 kf_X9_40 dX9_counts_46 ?_
      refine g_iload_n B dX9_counts_49 1 rfl rfl ?_
      refine g_iload_n B dX9_counts_50 3 rfl rfl ?_
      obtain ⟨m7, h⟩ := ck_e h
      obtain ⟨b8, h⟩ := ck_e h
      obtain ⟨S9, e10, h⟩ := lt_e h
      refine g_iast (n := 7) B m7 b8 (fun _ => rfl) e10 dX9_counts_51 ?_
      refine g_aload_n B dX9_counts_52 0 rfl rfl ?_
      refine gt_X9_14 B m1 kf_X9_43 dX9_counts_53 ?_
      refine g_iload_n B dX9_counts_56 1 rfl rfl ?_
      refine g_iload_n B dX9_counts_57 3 rfl rfl ?_
      refine g_aload_n B dX9_counts_58 0 rfl rfl ?_
      refine gt_X9_6 B m1 kf_X9_19 dX9_counts_59 ?_
      refine g_iload_n B dX9_counts_62 2 rfl rfl ?_
      obtain ⟨m11, h⟩ := ck_e h
      obtain ⟨b12, h⟩ := ck_e h
      refine g_iald (n := 6) B m11 (fun _ => rfl) b12 dX9_counts_63 ?_
      refine g_imul B dX9_counts_64 ?_
      obtain ⟨m13, h⟩ := ck_e h
      obtain ⟨b14, h⟩ := ck_e h
      obtain ⟨S15, e16, h⟩ := lt_e h
      refine g_iast (n := 7) B m13 b14 (fun _ => rfl) e16 dX9_counts_65 ?_
      refine g_aload_n B dX9_counts_66 0 rfl rfl ?_
      refine gt_X9_15 B m1 kf_X9_46 dX9_counts_67 ?_
      refine g_iload_n B dX9_counts_70 1 rfl rfl ?_
      refine g_iload_n B dX9_counts_71 3 rfl rfl ?_
      refine g_aload_n B dX9_counts_72 0 rfl rfl ?_
      refine gt_X9_7 B m1 kf_X9_22 dX9_counts_73 ?_
      refine g_iload_n B dX9_counts_76 2 rfl rfl ?_
      obtain ⟨m17, h⟩ := ck_e h
      obtain ⟨b18, h⟩ := ck_e h
      refine g_iald (n := 6) B m17 (fun _ => rfl) b18 dX9_counts_77 ?_
      refine g_imul B dX9_counts_78 ?_
      obtain ⟨m19, h⟩ := ck_e h
      obtain ⟨b20, h⟩ := ck_e h
      obtain ⟨S21, e22, h⟩ := lt_e h
      refine g_iast (n := 7) B m19 b20 (fun _ => rfl) e22 dX9_counts_79 ?_
      refine g_aload_n B dX9_counts_80 0 rfl rfl ?_
      refine gt_X9_17 B m1 kf_X9_52 dX9_counts_81 ?_
      refine g_iload_n B dX9_counts_84 1 rfl rfl ?_
      refine g_iconst (v := (0 : Int32)) B dX9_counts_85 (by decide) ?_
      obtain ⟨m23, h⟩ := ck_e h
      obtain ⟨b24, h⟩ := ck_e h
      obtain ⟨S25, e26, h⟩ := lt_e h
      refine g_iast (n := 7) B m23 b24 (fun _ => rfl) e26 dX9_counts_86 ?_
      refine g_aload_n B dX9_counts_87 0 rfl rfl ?_
      refine gt_X9_18 B m1 kf_X9_55 dX9_counts_88 ?_
      refine g_iload_n B dX9_counts_91 1 rfl rfl ?_
      refine g_iconst (v := (-1 : Int32)) B dX9_counts_92 (by decide) ?_
      obtain ⟨m27, h⟩ := ck_e h
      obtain ⟨b28, h⟩ := ck_e h
      obtain ⟨S29, e30, h⟩ := lt_e h
      refine g_iast (n := 7) B m27 b28 (fun _ => rfl) e30 dX9_counts_93 ?_
      obtain ⟨-, rfl⟩ := some_e h
      exact g_vret B dX9_counts_94
    · have h := if_f h q6
      obtain ⟨x31, e32, h⟩ := lt_e h
      refine g_iinc (v := x31) (lv' := [(3, .int x31), (0, .ref (ad 30 0)), (1, .int v1), (2, .int v2)]) B dX9_counts_39 (k := 3) rfl (by rw [e32]; rfl) (by decide) rfl ?_
      refine g_goto B 14 dX9_counts_42 (by decide) ?_
      refine g_sub [1, 2, 3, 0] rfl ?_
      exact ih _ _ _ _ h
def f_X9_counts (cs : List (Nat × Nat)) (N : Nat) (a1 : Int32) (S : HS) : Option (Unit × HS) :=
  ck (mc cs 30 0) (
  ck (mc cs 31 6) (
  ck (inb a1 7) (
  lt_ ((gi S 31 6 a1.toNatClampNeg)) (fun x4 =>
  ck (mc cs 31 7) (
  ck (inb a1 7) (
  lt_ ((gi S 31 7 a1.toNatClampNeg)) (fun x8 =>
  f_X9_counts_14 cs N N a1 x4 x8 S)))))))
set_option maxHeartbeats 4000000 in
set_option maxRecDepth 100000 in
theorem c_X9_counts {l : Launch} {D : va_G} {cy : Nat → ClassId} {cs : List (Nat × Nat)} {ad : Nat → Nat → Nat} {Zp : State → Prop} (hA : AdOk cs ad) (hZ : ZOk cs ad Zp) (N : Nat) (a1 : Int32) (S : HS) (r : Unit) (Z : HS) (h : f_X9_counts cs N a1 S = some (r, Z)) : Ctr Zp l yX9_counts cX9_counts 4 none rm_X9_counts D cy cs ad [.ref (ad 30 0), .int a1] S (none) Z := by
  unfold f_X9_counts at h
  refine Ctr.of hA hZ RX9 (plainFor_of_name (by decide)) rfl [(0, .ref (ad 30 0)), (1, .int a1)] rfl (Nat.le_of_ble_eq_true rfl) (fun p e s m below meth c B => ?_)
  refine g_aload_n B dX9_counts_0 0 rfl rfl ?_
  obtain ⟨m1, h⟩ := ck_e h
  refine gt_X9_9 B m1 kf_X9_28 dX9_counts_1 ?_
  refine g_iload_n B dX9_counts_4 1 rfl rfl ?_
  obtain ⟨m2, h⟩ := ck_e h
  obtain ⟨b3, h⟩ := ck_e h
  refine g_iald (n := 7) B m2 (fun _ => rfl) b3 dX9_counts_5 ?_
  obtain ⟨x4, e5, h⟩ := lt_e h
  refine g_topi e5 ?_
  refine g_istore_n (lv' := [(2, .int x4), (0, .ref (ad 30 0)), (1, .int a1)]) B dX9_counts_6 rfl (by decide) rfl ?_
  refine g_aload_n B dX9_counts_7 1 rfl rfl ?_
  refine gt_X9_10 B m1 kf_X9_31 dX9_counts_8 ?_
  refine g_iload_n B dX9_counts_11 2 rfl rfl ?_
  obtain ⟨m6, h⟩ := ck_e h
  obtain ⟨b7, h⟩ := ck_e h
  refine g_iald (n := 7) B m6 (fun _ => rfl) b7 dX9_counts_12 ?_
  obtain ⟨x8, e9, h⟩ := lt_e h
  refine g_topi e9 ?_
  refine g_istore_n (lv' := [(3, .int x8), (2, .int x4), (0, .ref (ad 30 0)), (1, .int a1)]) B dX9_counts_13 rfl (by decide) rfl ?_
  refine g_sub [2, 3, 1, 0] rfl ?_
  exact b_X9_counts_14 B N N _ _ _ _ h

def rm_X9_isOpen : Room := { frames := 1, cells := 0, slots := 0, locals := 22 }
def f_X9_isOpen (cs : List (Nat × Nat)) (N : Nat) (a1 : Int32) (S : HS) : Option (Int32 × HS) :=
  ck (mc cs 30 0) (
  ob (f_X9_isIn cs N a1 (0 : Int32) ((gi S 30 0 1) - (1 : Int32)) S) (fun r2 S3 =>
  if r2 = 0 then (
    some ((0 : Int32), S3))
  else (
    ck (mc cs 31 13) (
    ck (inb a1 7) (
    if (gi S3 31 13 a1.toNatClampNeg) = 0 then (
      some ((1 : Int32), S3))
    else (
      some ((0 : Int32), S3)))))))
set_option maxHeartbeats 4000000 in
set_option maxRecDepth 100000 in
theorem c_X9_isOpen {l : Launch} {D : va_G} {cy : Nat → ClassId} {cs : List (Nat × Nat)} {ad : Nat → Nat → Nat} {Zp : State → Prop} (hA : AdOk cs ad) (hZ : ZOk cs ad Zp) (N : Nat) (a1 : Int32) (S : HS) (r : Int32) (Z : HS) (h : f_X9_isOpen cs N a1 S = some (r, Z)) : Ctr Zp l yX9_isOpen cX9_isOpen 2 (some .boolean) rm_X9_isOpen D cy cs ad [.ref (ad 30 0), .int a1] S (some (.int r)) Z := by
  unfold f_X9_isOpen at h
  refine Ctr.of hA hZ RX9 (plainFor_of_name (by decide)) rfl [(0, .ref (ad 30 0)), (1, .int a1)] rfl (Nat.le_of_ble_eq_true rfl) (fun p e s m below meth c B => ?_)
  refine g_iload_n B dX9_isOpen_0 1 rfl rfl ?_
  refine g_iconst (v := (0 : Int32)) B dX9_isOpen_1 (by decide) ?_
  refine g_aload_n B dX9_isOpen_2 0 rfl rfl ?_
  obtain ⟨m1, h⟩ := ck_e h
  refine gt_X9_1 B m1 kf_X9_111 dX9_isOpen_3 ?_
  refine g_iconst (v := (1 : Int32)) B dX9_isOpen_6 (by decide) ?_
  refine g_isub B dX9_isOpen_7 ?_
  obtain ⟨r2, S3, e4, h⟩ := ob_e h
  refine g_csi (rest := []) B (c_X9_isIn hA hZ N _ _ _ _ _ _ e4) mf_X9_isIn km_X9_96 ⟨by decide, by decide⟩ ⟨rfl, rfl⟩ rfl rfl (Nat.le_of_ble_eq_true rfl) ⟨Nat.zero_le _, Nat.zero_le _⟩ dX9_isOpen_8 ?_
  refine g_if_eq B 27 dX9_isOpen_11 (by decide) (fun q5 => ?_) (fun q5 => ?_)
  · have h := if_t h q5
    refine g_iconst (v := (0 : Int32)) B dX9_isOpen_27 (by decide) ?_
    obtain ⟨rfl, rfl⟩ := some_e h
    exact g_zret B (by decide) dX9_isOpen_28
  · have h := if_f h q5
    refine g_aload_n B dX9_isOpen_14 0 rfl rfl ?_
    refine gt_X9_16 B m1 kf_X9_49 dX9_isOpen_15 ?_
    refine g_iload_n B dX9_isOpen_18 1 rfl rfl ?_
    obtain ⟨m6, h⟩ := ck_e h
    obtain ⟨b7, h⟩ := ck_e h
    refine g_iald (n := 7) B m6 (fun _ => rfl) b7 dX9_isOpen_19 ?_
    refine g_if_ne B 27 dX9_isOpen_20 (by decide) (fun q8 => ?_) (fun q8 => ?_)
    · have h := if_f h q8
      refine g_iconst (v := (0 : Int32)) B dX9_isOpen_27 (by decide) ?_
      obtain ⟨rfl, rfl⟩ := some_e h
      exact g_zret B (by decide) dX9_isOpen_28
    · have h := if_t h q8
      refine g_iconst (v := (1 : Int32)) B dX9_isOpen_23 (by decide) ?_
      refine g_goto B 28 dX9_isOpen_24 (by decide) ?_
      obtain ⟨rfl, rfl⟩ := some_e h
      exact g_zret B (by decide) dX9_isOpen_28

def rm_X9_pattern : Room := { frames := 2, cells := 0, slots := 0, locals := 43 }
def f_X9_pattern_65 (cs : List (Nat × Nat)) (N : Nat)  : Nat → Int32 → Int32 → HS → Option (Int32 × HS)
  | 0, _, _, _ => none
  | n + 1, v1, v5, S =>
    ck (mc cs 30 0) (
    if (gi S 30 0 1) ≤ v5 then (
      some ((1 : Int32), S))
    else (
      ob (f_X9_isOpen cs N v5 S) (fun r3 S4 =>
      if r3 = 0 then (
        lt_ (v5 + (1 : Int32)) (fun x7 =>
        f_X9_pattern_65 cs N n v1 x7 S4))
      else (
        ck (mc cs 31 6) (
        ck (inb v5 7) (
        if (gi S4 31 6 v5.toNatClampNeg) = v1 then (
          ob (f_X9_counts cs N v5 S4) (fun r14 S15 =>
          lt_ (v5 + (1 : Int32)) (fun x17 =>
          f_X9_pattern_65 cs N n v1 x17 S15)))
        else (
          lt_ (v5 + (1 : Int32)) (fun x12 =>
          f_X9_pattern_65 cs N n v1 x12 S4))))))))
set_option maxHeartbeats 4000000 in
set_option maxRecDepth 100000 in
theorem b_X9_pattern_65 {p : Program} {l : Launch} {e : Env} {s : State} {m : MethodId} {args : Array Value} {below : List Frame} {meth : Method} {c : Code} {D : va_G} {cy : Nat → ClassId} {cs : List (Nat × Nat)} {ad : Nat → Nat → Nat} {Zp : State → Prop} {r : Int32} {Z : HS} (B : Bd p s m args meth c D cy cs ad Zp cX9_pattern 6 RX9 (some .boolean)) (N : Nat)  : ∀ (n : Nat) (v1 : Int32) (v5 : Int32) (S : HS), f_X9_pattern_65 cs N n v1 v5 S = some (r, Z) → GW p l e rm_X9_pattern s m args below meth c (QM below args s D cy cs ad (some (.int r)) Z) D cy cs ad 0 0 6 65 [(0, .ref (ad 30 0)), (1, .int v1), (5, .int v5)] [] S := by
  have hA := B.2.2.2.2.2.2.1
  have hZ := B.2.2.2.2.2.2.2.2.2.2
  intro n
  induction n with
  | zero => intro v1 v5 S h; cases h
  | succ n ih =>
    intro v1 v5 S h
    rw [f_X9_pattern_65] at h
    refine g_iload B dX9_pattern_65 2 rfl ?_
    refine g_aload_n B dX9_pattern_67 0 rfl rfl ?_
    obtain ⟨m1, h⟩ := ck_e h
    refine gt_X9_1 B m1 kf_X9_111 dX9_pattern_68 ?_
    refine g_icmp_ge B 106 dX9_pattern_71 (by decide) (fun q2 => ?_) (fun q2 => ?_)
    · have h := if_t h q2
      refine g_iconst (v := (1 : Int32)) B dX9_pattern_106 (by decide) ?_
      obtain ⟨rfl, rfl⟩ := some_e h
      exact g_zret B (by decide) dX9_pattern_107
    · have h := if_f h q2
      refine g_aload_n B dX9_pattern_74 0 rfl rfl ?_
      refine g_iload B dX9_pattern_75 2 rfl ?_
      obtain ⟨r3, S4, e5, h⟩ := ob_e h
      refine g_cvi (rest := []) B (c_X9_isOpen hA hZ N _ _ _ _ e5) mf_X9_isOpen km_X9_117 ⟨by decide, by decide⟩ ⟨rfl, rfl⟩ m1 rfl rfl rfl rfl (Nat.le_of_ble_eq_true rfl) ⟨Nat.zero_le _, Nat.zero_le _⟩ dX9_pattern_77 ?_
      refine g_if_eq B 100 dX9_pattern_80 (by decide) (fun q6 => ?_) (fun q6 => ?_)
      · have h := if_t h q6
        obtain ⟨x7, e8, h⟩ := lt_e h
        refine g_iinc (v := x7) (lv' := [(5, .int x7), (0, .ref (ad 30 0)), (1, .int v1)]) B dX9_pattern_100 (k := 2) rfl (by rw [e8]; rfl) (by decide) rfl ?_
        refine g_goto B 65 dX9_pattern_103 (by decide) ?_
        refine g_sub [1, 2, 0] rfl ?_
        exact ih _ _ _ h
      · have h := if_f h q6
        refine g_aload_n B dX9_pattern_83 0 rfl rfl ?_
        refine gt_X9_9 B m1 kf_X9_28 dX9_pattern_84 ?_
        refine g_iload B dX9_pattern_87 2 rfl ?_
        obtain ⟨m9, h⟩ := ck_e h
        obtain ⟨b10, h⟩ := ck_e h
        refine g_iald (n := 7) B m9 (fun _ => rfl) b10 dX9_pattern_89 ?_
        refine g_iload_n B dX9_pattern_90 1 rfl rfl ?_
        refine g_icmp_ne B 100 dX9_pattern_91 (by decide) (fun q11 => ?_) (fun q11 => ?_)
        · have h := if_f h q11
          obtain ⟨x12, e13, h⟩ := lt_e h
          refine g_iinc (v := x12) (lv' := [(5, .int x12), (0, .ref (ad 30 0)), (1, .int v1)]) B dX9_pattern_100 (k := 2) rfl (by rw [e13]; rfl) (by decide) rfl ?_
          refine g_goto B 65 dX9_pattern_103 (by decide) ?_
          refine g_sub [1, 2, 0] rfl ?_
          exact ih _ _ _ h
        · have h := if_t h q11
          refine g_aload_n B dX9_pattern_94 0 rfl rfl ?_
          refine g_iload B dX9_pattern_95 2 rfl ?_
          obtain ⟨r14, S15, e16, h⟩ := ob_e h
          refine g_cvv (rest := []) B (c_X9_counts hA hZ N _ _ _ _ e16) mf_X9_counts km_X9_120 ⟨by decide, by decide⟩ ⟨rfl, rfl⟩ m1 rfl rfl rfl rfl (Nat.le_of_ble_eq_true rfl) ⟨Nat.zero_le _, Nat.zero_le _⟩ dX9_pattern_97 ?_
          obtain ⟨x17, e18, h⟩ := lt_e h
          refine g_iinc (v := x17) (lv' := [(5, .int x17), (0, .ref (ad 30 0)), (1, .int v1)]) B dX9_pattern_100 (k := 2) rfl (by rw [e18]; rfl) (by decide) rfl ?_
          refine g_goto B 65 dX9_pattern_103 (by decide) ?_
          refine g_sub [1, 2, 0] rfl ?_
          exact ih _ _ _ h
def f_X9_pattern (cs : List (Nat × Nat)) (N : Nat) (a1 : Int32) (a2 : Int32) (a3 : Int32) (a4 : Int32) (S : HS) : Option (Int32 × HS) :=
  ob (f_X9_isPattern cs N a1 S) (fun r1 S2 =>
  if r1 = 0 then (
    some ((0 : Int32), S2))
  else (
    ob (f_X9_isIn cs N a2 (1 : Int32) (30 : Int32) S2) (fun r5 S6 =>
    if r5 = 0 then (
      some ((0 : Int32), S6))
    else (
      ob (f_X9_isIn cs N a3 (0 : Int32) (20 : Int32) S6) (fun r9 S10 =>
      if r9 = 0 then (
        some ((0 : Int32), S10))
      else (
        ob (f_X9_isIn cs N a4 (0 : Int32) (90 : Int32) S10) (fun r13 S14 =>
        if r13 = 0 then (
          some ((0 : Int32), S14))
        else (
          ck (mc cs 30 0) (
          ck (mc cs 31 3) (
          ck (inb a1 6) (
          lt_ (ui S14 31 3 a1.toNatClampNeg a2) (fun S20 =>
          ck (mc cs 31 4) (
          ck (inb a1 6) (
          lt_ (ui S20 31 4 a1.toNatClampNeg a3) (fun S24 =>
          ck (mc cs 31 5) (
          ck (inb a1 6) (
          lt_ (ui S24 31 5 a1.toNatClampNeg a4) (fun S28 =>
          f_X9_pattern_65 cs N N a1 (0 : Int32) S28))))))))))))))))))
set_option maxHeartbeats 4000000 in
set_option maxRecDepth 100000 in
theorem c_X9_pattern {l : Launch} {D : va_G} {cy : Nat → ClassId} {cs : List (Nat × Nat)} {ad : Nat → Nat → Nat} {Zp : State → Prop} (hA : AdOk cs ad) (hZ : ZOk cs ad Zp) (N : Nat) (a1 : Int32) (a2 : Int32) (a3 : Int32) (a4 : Int32) (S : HS) (r : Int32) (Z : HS) (h : f_X9_pattern cs N a1 a2 a3 a4 S = some (r, Z)) : Ctr Zp l yX9_pattern cX9_pattern 6 (some .boolean) rm_X9_pattern D cy cs ad [.ref (ad 30 0), .int a1, .int a2, .int a3, .int a4] S (some (.int r)) Z := by
  unfold f_X9_pattern at h
  refine Ctr.of hA hZ RX9 (plainFor_of_name (by decide)) rfl [(0, .ref (ad 30 0)), (1, .int a1), (2, .int a2), (3, .int a3), (4, .int a4)] rfl (Nat.le_of_ble_eq_true rfl) (fun p e s m below meth c B => ?_)
  refine g_iload_n B dX9_pattern_0 1 rfl rfl ?_
  obtain ⟨r1, S2, e3, h⟩ := ob_e h
  refine g_csi (rest := []) B (c_X9_isPattern hA hZ N _ _ _ _ e3) mf_X9_isPattern km_X9_114 ⟨by decide, by decide⟩ ⟨rfl, rfl⟩ rfl rfl (Nat.le_of_ble_eq_true rfl) ⟨Nat.zero_le _, Nat.zero_le _⟩ dX9_pattern_1 ?_
  refine g_if_eq B 38 dX9_pattern_4 (by decide) (fun q4 => ?_) (fun q4 => ?_)
  · have h := if_t h q4
    refine g_iconst (v := (0 : Int32)) B dX9_pattern_38 (by decide) ?_
    obtain ⟨rfl, rfl⟩ := some_e h
    exact g_zret B (by decide) dX9_pattern_39
  · have h := if_f h q4
    refine g_iload_n B dX9_pattern_7 2 rfl rfl ?_
    refine g_iconst (v := (1 : Int32)) B dX9_pattern_8 (by decide) ?_
    refine g_bipush (v := (30 : Int32)) B dX9_pattern_9 (by decide) ?_
    obtain ⟨r5, S6, e7, h⟩ := ob_e h
    refine g_csi (rest := []) B (c_X9_isIn hA hZ N _ _ _ _ _ _ e7) mf_X9_isIn km_X9_96 ⟨by decide, by decide⟩ ⟨rfl, rfl⟩ rfl rfl (Nat.le_of_ble_eq_true rfl) ⟨Nat.zero_le _, Nat.zero_le _⟩ dX9_pattern_11 ?_
    refine g_if_eq B 38 dX9_pattern_14 (by decide) (fun q8 => ?_) (fun q8 => ?_)
    · have h := if_t h q8
      refine g_iconst (v := (0 : Int32)) B dX9_pattern_38 (by decide) ?_
      obtain ⟨rfl, rfl⟩ := some_e h
      exact g_zret B (by decide) dX9_pattern_39
    · have h := if_f h q8
      refine g_iload_n B dX9_pattern_17 3 rfl rfl ?_
      refine g_iconst (v := (0 : Int32)) B dX9_pattern_18 (by decide) ?_
      refine g_bipush (v := (20 : Int32)) B dX9_pattern_19 (by decide) ?_
      obtain ⟨r9, S10, e11, h⟩ := ob_e h
      refine g_csi (rest := []) B (c_X9_isIn hA hZ N _ _ _ _ _ _ e11) mf_X9_isIn km_X9_96 ⟨by decide, by decide⟩ ⟨rfl, rfl⟩ rfl rfl (Nat.le_of_ble_eq_true rfl) ⟨Nat.zero_le _, Nat.zero_le _⟩ dX9_pattern_21 ?_
      refine g_if_eq B 38 dX9_pattern_24 (by decide) (fun q12 => ?_) (fun q12 => ?_)
      · have h := if_t h q12
        refine g_iconst (v := (0 : Int32)) B dX9_pattern_38 (by decide) ?_
        obtain ⟨rfl, rfl⟩ := some_e h
        exact g_zret B (by decide) dX9_pattern_39
      · have h := if_f h q12
        refine g_iload B dX9_pattern_27 4 rfl ?_
        refine g_iconst (v := (0 : Int32)) B dX9_pattern_29 (by decide) ?_
        refine g_bipush (v := (90 : Int32)) B dX9_pattern_30 (by decide) ?_
        obtain ⟨r13, S14, e15, h⟩ := ob_e h
        refine g_csi (rest := []) B (c_X9_isIn hA hZ N _ _ _ _ _ _ e15) mf_X9_isIn km_X9_96 ⟨by decide, by decide⟩ ⟨rfl, rfl⟩ rfl rfl (Nat.le_of_ble_eq_true rfl) ⟨Nat.zero_le _, Nat.zero_le _⟩ dX9_pattern_32 ?_
        refine g_if_ne B 40 dX9_pattern_35 (by decide) (fun q16 => ?_) (fun q16 => ?_)
        · have h := if_f h q16
          refine g_aload_n B dX9_pattern_40 0 rfl rfl ?_
          obtain ⟨m17, h⟩ := ck_e h
          refine gt_X9_6 B m17 kf_X9_19 dX9_pattern_41 ?_
          refine g_iload_n B dX9_pattern_44 1 rfl rfl ?_
          refine g_iload_n B dX9_pattern_45 2 rfl rfl ?_
          obtain ⟨m18, h⟩ := ck_e h
          obtain ⟨b19, h⟩ := ck_e h
          obtain ⟨S20, e21, h⟩ := lt_e h
          refine g_iast (n := 6) B m18 b19 (fun _ => rfl) e21 dX9_pattern_46 ?_
          refine g_aload_n B dX9_pattern_47 0 rfl rfl ?_
          refine gt_X9_7 B m17 kf_X9_22 dX9_pattern_48 ?_
          refine g_iload_n B dX9_pattern_51 1 rfl rfl ?_
          refine g_iload_n B dX9_pattern_52 3 rfl rfl ?_
          obtain ⟨m22, h⟩ := ck_e h
          obtain ⟨b23, h⟩ := ck_e h
          obtain ⟨S24, e25, h⟩ := lt_e h
          refine g_iast (n := 6) B m22 b23 (fun _ => rfl) e25 dX9_pattern_53 ?_
          refine g_aload_n B dX9_pattern_54 0 rfl rfl ?_
          refine gt_X9_8 B m17 kf_X9_25 dX9_pattern_55 ?_
          refine g_iload_n B dX9_pattern_58 1 rfl rfl ?_
          refine g_iload B dX9_pattern_59 4 rfl ?_
          obtain ⟨m26, h⟩ := ck_e h
          obtain ⟨b27, h⟩ := ck_e h
          obtain ⟨S28, e29, h⟩ := lt_e h
          refine g_iast (n := 6) B m26 b27 (fun _ => rfl) e29 dX9_pattern_61 ?_
          refine g_iconst (v := (0 : Int32)) B dX9_pattern_62 (by decide) ?_
          refine g_istore (lv' := [(5, .int (0 : Int32)), (0, .ref (ad 30 0)), (1, .int a1), (2, .int a2), (3, .int a3), (4, .int a4)]) B dX9_pattern_63 (by decide) rfl ?_
          refine g_sub [1, 2, 0] rfl ?_
          exact b_X9_pattern_65 B N N _ _ _ h
        · have h := if_t h q16
          refine g_iconst (v := (0 : Int32)) B dX9_pattern_38 (by decide) ?_
          obtain ⟨rfl, rfl⟩ := some_e h
          exact g_zret B (by decide) dX9_pattern_39

def rm_X9_lend : Room := { frames := 2, cells := 0, slots := 0, locals := 42 }
def f_X9_lend (cs : List (Nat × Nat)) (N : Nat) (a1 : Int32) (a2 : Int32) (S : HS) : Option (Int32 × HS) :=
  ob (f_X9_isFamily cs N a1 S) (fun r1 S2 =>
  if r1 = 0 then (
    some ((0 : Int32), S2))
  else (
    ob (f_X9_isIn cs N a2 (1 : Int32) (9999 : Int32) S2) (fun r5 S6 =>
    if r5 = 0 then (
      some ((0 : Int32), S6))
    else (
      ck (mc cs 30 0) (
      ck (mc cs 31 1) (
      ck (inb a1 4) (
      if ((gi S6 31 1 a1.toNatClampNeg) + a2) ≤ (99999 : Int32) then (
        ck (inb a1 4) (
        ck (inb a1 4) (
        lt_ (ui S6 31 1 a1.toNatClampNeg ((gi S6 31 1 a1.toNatClampNeg) + a2)) (fun S15 =>
        some ((1 : Int32), S15)))))
      else (
        some ((0 : Int32), S6)))))))))
set_option maxHeartbeats 4000000 in
set_option maxRecDepth 100000 in
theorem c_X9_lend {l : Launch} {D : va_G} {cy : Nat → ClassId} {cs : List (Nat × Nat)} {ad : Nat → Nat → Nat} {Zp : State → Prop} (hA : AdOk cs ad) (hZ : ZOk cs ad Zp) (N : Nat) (a1 : Int32) (a2 : Int32) (S : HS) (r : Int32) (Z : HS) (h : f_X9_lend cs N a1 a2 S = some (r, Z)) : Ctr Zp l yX9_lend cX9_lend 3 (some .boolean) rm_X9_lend D cy cs ad [.ref (ad 30 0), .int a1, .int a2] S (some (.int r)) Z := by
  unfold f_X9_lend at h
  refine Ctr.of hA hZ RX9 (plainFor_of_name (by decide)) rfl [(0, .ref (ad 30 0)), (1, .int a1), (2, .int a2)] rfl (Nat.le_of_ble_eq_true rfl) (fun p e s m below meth c B => ?_)
  refine g_iload_n B dX9_lend_0 1 rfl rfl ?_
  obtain ⟨r1, S2, e3, h⟩ := ob_e h
  refine g_csi (rest := []) B (c_X9_isFamily hA hZ N _ _ _ _ e3) mf_X9_isFamily km_X9_100 ⟨by decide, by decide⟩ ⟨rfl, rfl⟩ rfl rfl (Nat.le_of_ble_eq_true rfl) ⟨Nat.zero_le _, Nat.zero_le _⟩ dX9_lend_1 ?_
  refine g_if_eq B 31 dX9_lend_4 (by decide) (fun q4 => ?_) (fun q4 => ?_)
  · have h := if_t h q4
    refine g_iconst (v := (0 : Int32)) B dX9_lend_31 (by decide) ?_
    obtain ⟨rfl, rfl⟩ := some_e h
    exact g_zret B (by decide) dX9_lend_32
  · have h := if_f h q4
    refine g_iload_n B dX9_lend_7 2 rfl rfl ?_
    refine g_iconst (v := (1 : Int32)) B dX9_lend_8 (by decide) ?_
    refine g_sipush (v := (9999 : Int32)) B dX9_lend_9 (by decide) ?_
    obtain ⟨r5, S6, e7, h⟩ := ob_e h
    refine g_csi (rest := []) B (c_X9_isIn hA hZ N _ _ _ _ _ _ e7) mf_X9_isIn km_X9_96 ⟨by decide, by decide⟩ ⟨rfl, rfl⟩ rfl rfl (Nat.le_of_ble_eq_true rfl) ⟨Nat.zero_le _, Nat.zero_le _⟩ dX9_lend_12 ?_
    refine g_if_eq B 31 dX9_lend_15 (by decide) (fun q8 => ?_) (fun q8 => ?_)
    · have h := if_t h q8
      refine g_iconst (v := (0 : Int32)) B dX9_lend_31 (by decide) ?_
      obtain ⟨rfl, rfl⟩ := some_e h
      exact g_zret B (by decide) dX9_lend_32
    · have h := if_f h q8
      refine g_aload_n B dX9_lend_18 0 rfl rfl ?_
      obtain ⟨m9, h⟩ := ck_e h
      refine gt_X9_4 B m9 kf_X9_13 dX9_lend_19 ?_
      refine g_iload_n B dX9_lend_22 1 rfl rfl ?_
      obtain ⟨m10, h⟩ := ck_e h
      obtain ⟨b11, h⟩ := ck_e h
      refine g_iald (n := 4) B m10 (fun _ => rfl) b11 dX9_lend_23 ?_
      refine g_iload_n B dX9_lend_24 2 rfl rfl ?_
      refine g_iadd B dX9_lend_25 ?_
      refine g_ldc (v := (99999 : Int32)) B dX9_lend_26 kk_X9_124 ?_
      refine g_icmp_le B 33 dX9_lend_28 (by decide) (fun q12 => ?_) (fun q12 => ?_)
      · have h := if_t h q12
        refine g_aload_n B dX9_lend_33 0 rfl rfl ?_
        refine gt_X9_4 B m9 kf_X9_13 dX9_lend_34 ?_
        refine g_iload_n B dX9_lend_37 1 rfl rfl ?_
        refine g_dup2 B dX9_lend_38 rfl rfl ?_
        obtain ⟨b13, h⟩ := ck_e h
        refine g_iald (n := 4) B m10 (fun _ => rfl) b13 dX9_lend_39 ?_
        refine g_iload_n B dX9_lend_40 2 rfl rfl ?_
        refine g_iadd B dX9_lend_41 ?_
        obtain ⟨b14, h⟩ := ck_e h
        obtain ⟨S15, e16, h⟩ := lt_e h
        refine g_iast (n := 4) B m10 b14 (fun _ => rfl) e16 dX9_lend_42 ?_
        refine g_iconst (v := (1 : Int32)) B dX9_lend_43 (by decide) ?_
        obtain ⟨rfl, rfl⟩ := some_e h
        exact g_zret B (by decide) dX9_lend_44
      · have h := if_f h q12
        refine g_iconst (v := (0 : Int32)) B dX9_lend_31 (by decide) ?_
        obtain ⟨rfl, rfl⟩ := some_e h
        exact g_zret B (by decide) dX9_lend_32

def rm_X9_bring : Room := { frames := 2, cells := 0, slots := 0, locals := 42 }
def f_X9_bring (cs : List (Nat × Nat)) (N : Nat) (a1 : Int32) (S : HS) : Option (Int32 × HS) :=
  ob (f_X9_isFamily cs N a1 S) (fun r1 S2 =>
  if r1 = 0 then (
    some ((-1 : Int32), S2))
  else (
    ck (mc cs 30 0) (
    ck (mc cs 31 1) (
    ck (inb a1 4) (
    lt_ ((gi S2 31 1 a1.toNatClampNeg)) (fun x8 =>
    ck (inb a1 4) (
    lt_ (ui S2 31 1 a1.toNatClampNeg (0 : Int32)) (fun S11 =>
    some (x8, S11)))))))))
set_option maxHeartbeats 4000000 in
set_option maxRecDepth 100000 in
theorem c_X9_bring {l : Launch} {D : va_G} {cy : Nat → ClassId} {cs : List (Nat × Nat)} {ad : Nat → Nat → Nat} {Zp : State → Prop} (hA : AdOk cs ad) (hZ : ZOk cs ad Zp) (N : Nat) (a1 : Int32) (S : HS) (r : Int32) (Z : HS) (h : f_X9_bring cs N a1 S = some (r, Z)) : Ctr Zp l yX9_bring cX9_bring 3 (some .int) rm_X9_bring D cy cs ad [.ref (ad 30 0), .int a1] S (some (.int r)) Z := by
  unfold f_X9_bring at h
  refine Ctr.of hA hZ RX9 (plainFor_of_name (by decide)) rfl [(0, .ref (ad 30 0)), (1, .int a1)] rfl (Nat.le_of_ble_eq_true rfl) (fun p e s m below meth c B => ?_)
  refine g_iload_n B dX9_bring_0 1 rfl rfl ?_
  obtain ⟨r1, S2, e3, h⟩ := ob_e h
  refine g_csi (rest := []) B (c_X9_isFamily hA hZ N _ _ _ _ e3) mf_X9_isFamily km_X9_100 ⟨by decide, by decide⟩ ⟨rfl, rfl⟩ rfl rfl (Nat.le_of_ble_eq_true rfl) ⟨Nat.zero_le _, Nat.zero_le _⟩ dX9_bring_1 ?_
  refine g_if_ne B 9 dX9_bring_4 (by decide) (fun q4 => ?_) (fun q4 => ?_)
  · have h := if_f h q4
    refine g_aload_n B dX9_bring_9 0 rfl rfl ?_
    obtain ⟨m5, h⟩ := ck_e h
    refine gt_X9_4 B m5 kf_X9_13 dX9_bring_10 ?_
    refine g_iload_n B dX9_bring_13 1 rfl rfl ?_
    obtain ⟨m6, h⟩ := ck_e h
    obtain ⟨b7, h⟩ := ck_e h
    refine g_iald (n := 4) B m6 (fun _ => rfl) b7 dX9_bring_14 ?_
    obtain ⟨x8, e9, h⟩ := lt_e h
    refine g_topi e9 ?_
    refine g_istore_n (lv' := [(2, .int x8), (0, .ref (ad 30 0)), (1, .int a1)]) B dX9_bring_15 rfl (by decide) rfl ?_
    refine g_aload_n B dX9_bring_16 1 rfl rfl ?_
    refine gt_X9_4 B m5 kf_X9_13 dX9_bring_17 ?_
    refine g_iload_n B dX9_bring_20 2 rfl rfl ?_
    refine g_iconst (v := (0 : Int32)) B dX9_bring_21 (by decide) ?_
    obtain ⟨b10, h⟩ := ck_e h
    obtain ⟨S11, e12, h⟩ := lt_e h
    refine g_iast (n := 4) B m6 b10 (fun _ => rfl) e12 dX9_bring_22 ?_
    refine g_iload_n B dX9_bring_23 0 rfl rfl ?_
    obtain ⟨rfl, rfl⟩ := some_e h
    exact g_iret B dX9_bring_24
  · have h := if_t h q4
    refine g_iconst (v := (-1 : Int32)) B dX9_bring_7 (by decide) ?_
    obtain ⟨rfl, rfl⟩ := some_e h
    exact g_iret B dX9_bring_8

def rm_X9_order : Room := { frames := 2, cells := 0, slots := 0, locals := 43 }
def f_X9_order (cs : List (Nat × Nat)) (N : Nat) (a1 : Int32) (a2 : Int32) (a3 : Int32) (a4 : Int32) (S : HS) : Option (Int32 × HS) :=
  ob (f_X9_isPattern cs N a1 S) (fun r1 S2 =>
  if r1 = 0 then (
    some ((-1 : Int32), S2))
  else (
    ob (f_X9_isIn cs N a2 (1 : Int32) (20 : Int32) S2) (fun r5 S6 =>
    if r5 = 0 then (
      some ((-1 : Int32), S6))
    else (
      ck (mc cs 30 0) (
      ob (f_X9_isWeek cs N a3 (gi S6 30 0 0) S6) (fun r10 S11 =>
      if r10 = 0 then (
        some ((-1 : Int32), S11))
      else (
        ob (f_X9_isIn cs N a4 (1 : Int32) (9999 : Int32) S11) (fun r14 S15 =>
        if r14 = 0 then (
          some ((-1 : Int32), S15))
        else (
          if (gi S15 30 0 1) = (7 : Int32) then (
            some ((-1 : Int32), S15))
          else (
            lt_ ((gi S15 30 0 1)) (fun x19 =>
            lt_ (ui S15 30 0 1 ((gi S15 30 0 1) + (1 : Int32))) (fun S21 =>
            ck (mc cs 31 6) (
            ck (inb x19 7) (
            lt_ (ui S21 31 6 x19.toNatClampNeg a1) (fun S25 =>
            ck (mc cs 31 7) (
            ck (inb x19 7) (
            lt_ (ui S25 31 7 x19.toNatClampNeg a2) (fun S29 =>
            ck (mc cs 31 8) (
            ck (inb x19 7) (
            lt_ (ui S29 31 8 x19.toNatClampNeg a3) (fun S33 =>
            ck (mc cs 31 9) (
            ck (inb x19 7) (
            lt_ (ui S33 31 9 x19.toNatClampNeg a4) (fun S37 =>
            ck (mc cs 31 13) (
            ck (inb x19 7) (
            lt_ (ui S37 31 13 x19.toNatClampNeg (0 : Int32)) (fun S41 =>
            ob (f_X9_counts cs N x19 S41) (fun r43 S44 =>
            some (x19, S44)))))))))))))))))))))))))))))
set_option maxHeartbeats 4000000 in
set_option maxRecDepth 100000 in
theorem c_X9_order {l : Launch} {D : va_G} {cy : Nat → ClassId} {cs : List (Nat × Nat)} {ad : Nat → Nat → Nat} {Zp : State → Prop} (hA : AdOk cs ad) (hZ : ZOk cs ad Zp) (N : Nat) (a1 : Int32) (a2 : Int32) (a3 : Int32) (a4 : Int32) (S : HS) (r : Int32) (Z : HS) (h : f_X9_order cs N a1 a2 a3 a4 S = some (r, Z)) : Ctr Zp l yX9_order cX9_order 6 (some .int) rm_X9_order D cy cs ad [.ref (ad 30 0), .int a1, .int a2, .int a3, .int a4] S (some (.int r)) Z := by
  unfold f_X9_order at h
  refine Ctr.of hA hZ RX9 (plainFor_of_name (by decide)) rfl [(0, .ref (ad 30 0)), (1, .int a1), (2, .int a2), (3, .int a3), (4, .int a4)] rfl (Nat.le_of_ble_eq_true rfl) (fun p e s m below meth c B => ?_)
  refine g_iload_n B dX9_order_0 1 rfl rfl ?_
  obtain ⟨r1, S2, e3, h⟩ := ob_e h
  refine g_csi (rest := []) B (c_X9_isPattern hA hZ N _ _ _ _ e3) mf_X9_isPattern km_X9_114 ⟨by decide, by decide⟩ ⟨rfl, rfl⟩ rfl rfl (Nat.le_of_ble_eq_true rfl) ⟨Nat.zero_le _, Nat.zero_le _⟩ dX9_order_1 ?_
  refine g_if_eq B 49 dX9_order_4 (by decide) (fun q4 => ?_) (fun q4 => ?_)
  · have h := if_t h q4
    refine g_iconst (v := (-1 : Int32)) B dX9_order_49 (by decide) ?_
    obtain ⟨rfl, rfl⟩ := some_e h
    exact g_iret B dX9_order_50
  · have h := if_f h q4
    refine g_iload_n B dX9_order_7 2 rfl rfl ?_
    refine g_iconst (v := (1 : Int32)) B dX9_order_8 (by decide) ?_
    refine g_bipush (v := (20 : Int32)) B dX9_order_9 (by decide) ?_
    obtain ⟨r5, S6, e7, h⟩ := ob_e h
    refine g_csi (rest := []) B (c_X9_isIn hA hZ N _ _ _ _ _ _ e7) mf_X9_isIn km_X9_96 ⟨by decide, by decide⟩ ⟨rfl, rfl⟩ rfl rfl (Nat.le_of_ble_eq_true rfl) ⟨Nat.zero_le _, Nat.zero_le _⟩ dX9_order_11 ?_
    refine g_if_eq B 49 dX9_order_14 (by decide) (fun q8 => ?_) (fun q8 => ?_)
    · have h := if_t h q8
      refine g_iconst (v := (-1 : Int32)) B dX9_order_49 (by decide) ?_
      obtain ⟨rfl, rfl⟩ := some_e h
      exact g_iret B dX9_order_50
    · have h := if_f h q8
      refine g_iload_n B dX9_order_17 3 rfl rfl ?_
      refine g_aload_n B dX9_order_18 0 rfl rfl ?_
      obtain ⟨m9, h⟩ := ck_e h
      refine gt_X9_0 B m9 kf_X9_104 dX9_order_19 ?_
      obtain ⟨r10, S11, e12, h⟩ := ob_e h
      refine g_csi (rest := []) B (c_X9_isWeek hA hZ N _ _ _ _ _ e12) mf_X9_isWeek km_X9_107 ⟨by decide, by decide⟩ ⟨rfl, rfl⟩ rfl rfl (Nat.le_of_ble_eq_true rfl) ⟨Nat.zero_le _, Nat.zero_le _⟩ dX9_order_22 ?_
      refine g_if_eq B 49 dX9_order_25 (by decide) (fun q13 => ?_) (fun q13 => ?_)
      · have h := if_t h q13
        refine g_iconst (v := (-1 : Int32)) B dX9_order_49 (by decide) ?_
        obtain ⟨rfl, rfl⟩ := some_e h
        exact g_iret B dX9_order_50
      · have h := if_f h q13
        refine g_iload B dX9_order_28 4 rfl ?_
        refine g_iconst (v := (1 : Int32)) B dX9_order_30 (by decide) ?_
        refine g_sipush (v := (9999 : Int32)) B dX9_order_31 (by decide) ?_
        obtain ⟨r14, S15, e16, h⟩ := ob_e h
        refine g_csi (rest := []) B (c_X9_isIn hA hZ N _ _ _ _ _ _ e16) mf_X9_isIn km_X9_96 ⟨by decide, by decide⟩ ⟨rfl, rfl⟩ rfl rfl (Nat.le_of_ble_eq_true rfl) ⟨Nat.zero_le _, Nat.zero_le _⟩ dX9_order_34 ?_
        refine g_if_eq B 49 dX9_order_37 (by decide) (fun q17 => ?_) (fun q17 => ?_)
        · have h := if_t h q17
          refine g_iconst (v := (-1 : Int32)) B dX9_order_49 (by decide) ?_
          obtain ⟨rfl, rfl⟩ := some_e h
          exact g_iret B dX9_order_50
        · have h := if_f h q17
          refine g_aload_n B dX9_order_40 0 rfl rfl ?_
          refine gt_X9_1 B m9 kf_X9_111 dX9_order_41 ?_
          refine g_bipush (v := (7 : Int32)) B dX9_order_44 (by decide) ?_
          refine g_icmp_ne B 51 dX9_order_46 (by decide) (fun q18 => ?_) (fun q18 => ?_)
          · have h := if_f h q18
            refine g_aload_n B dX9_order_51 0 rfl rfl ?_
            refine gt_X9_1 B m9 kf_X9_111 dX9_order_52 ?_
            obtain ⟨x19, e20, h⟩ := lt_e h
            refine g_topi e20 ?_
            refine g_istore (lv' := [(5, .int x19), (0, .ref (ad 30 0)), (1, .int a1), (2, .int a2), (3, .int a3), (4, .int a4)]) B dX9_order_55 (by decide) rfl ?_
            refine g_aload_n B dX9_order_57 1 rfl rfl ?_
            refine g_dup B dX9_order_58 rfl ?_
            refine gt_X9_1 B m9 kf_X9_111 dX9_order_59 ?_
            refine g_iconst (v := (1 : Int32)) B dX9_order_62 (by decide) ?_
            refine g_iadd B dX9_order_63 ?_
            obtain ⟨S21, e22, h⟩ := lt_e h
            refine pt_X9_1 B m9 kf_X9_111 e22 dX9_order_64 ?_
            refine g_aload_n B dX9_order_67 1 rfl rfl ?_
            refine gt_X9_9 B m9 kf_X9_28 dX9_order_68 ?_
            refine g_iload B dX9_order_71 0 rfl ?_
            refine g_iload_n B dX9_order_73 2 rfl rfl ?_
            obtain ⟨m23, h⟩ := ck_e h
            obtain ⟨b24, h⟩ := ck_e h
            obtain ⟨S25, e26, h⟩ := lt_e h
            refine g_iast (n := 7) B m23 b24 (fun _ => rfl) e26 dX9_order_74 ?_
            refine g_aload_n B dX9_order_75 1 rfl rfl ?_
            refine gt_X9_10 B m9 kf_X9_31 dX9_order_76 ?_
            refine g_iload B dX9_order_79 0 rfl ?_
            refine g_iload_n B dX9_order_81 3 rfl rfl ?_
            obtain ⟨m27, h⟩ := ck_e h
            obtain ⟨b28, h⟩ := ck_e h
            obtain ⟨S29, e30, h⟩ := lt_e h
            refine g_iast (n := 7) B m27 b28 (fun _ => rfl) e30 dX9_order_82 ?_
            refine g_aload_n B dX9_order_83 1 rfl rfl ?_
            refine gt_X9_11 B m9 kf_X9_34 dX9_order_84 ?_
            refine g_iload B dX9_order_87 0 rfl ?_
            refine g_iload_n B dX9_order_89 4 rfl rfl ?_
            obtain ⟨m31, h⟩ := ck_e h
            obtain ⟨b32, h⟩ := ck_e h
            obtain ⟨S33, e34, h⟩ := lt_e h
            refine g_iast (n := 7) B m31 b32 (fun _ => rfl) e34 dX9_order_90 ?_
            refine g_aload_n B dX9_order_91 1 rfl rfl ?_
            refine gt_X9_12 B m9 kf_X9_37 dX9_order_92 ?_
            refine g_iload B dX9_order_95 0 rfl ?_
            refine g_iload B dX9_order_97 5 rfl ?_
            obtain ⟨m35, h⟩ := ck_e h
            obtain ⟨b36, h⟩ := ck_e h
            obtain ⟨S37, e38, h⟩ := lt_e h
            refine g_iast (n := 7) B m35 b36 (fun _ => rfl) e38 dX9_order_99 ?_
            refine g_aload_n B dX9_order_100 1 rfl rfl ?_
            refine gt_X9_16 B m9 kf_X9_49 dX9_order_101 ?_
            refine g_iload B dX9_order_104 0 rfl ?_
            refine g_iconst (v := (0 : Int32)) B dX9_order_106 (by decide) ?_
            obtain ⟨m39, h⟩ := ck_e h
            obtain ⟨b40, h⟩ := ck_e h
            obtain ⟨S41, e42, h⟩ := lt_e h
            refine g_iast (n := 7) B m39 b40 (fun _ => rfl) e42 dX9_order_107 ?_
            refine g_aload_n B dX9_order_108 1 rfl rfl ?_
            refine g_iload B dX9_order_109 0 rfl ?_
            obtain ⟨r43, S44, e45, h⟩ := ob_e h
            refine g_cvv (rest := []) B (c_X9_counts hA hZ N _ _ _ _ e45) mf_X9_counts km_X9_120 ⟨by decide, by decide⟩ ⟨rfl, rfl⟩ m9 rfl rfl rfl rfl (Nat.le_of_ble_eq_true rfl) ⟨Nat.zero_le _, Nat.zero_le _⟩ dX9_order_111 ?_
            refine g_iload B dX9_order_114 0 rfl ?_
            obtain ⟨rfl, rfl⟩ := some_e h
            exact g_iret B dX9_order_116
          · have h := if_t h q18
            refine g_iconst (v := (-1 : Int32)) B dX9_order_49 (by decide) ?_
            obtain ⟨rfl, rfl⟩ := some_e h
            exact g_iret B dX9_order_50

def rm_X9_drop : Room := { frames := 2, cells := 0, slots := 0, locals := 43 }
def f_X9_drop (cs : List (Nat × Nat)) (N : Nat) (a1 : Int32) (S : HS) : Option (Int32 × HS) :=
  ck (mc cs 30 0) (
  ob (f_X9_isOpen cs N a1 S) (fun r2 S3 =>
  if r2 = 0 then (
    some ((0 : Int32), S3))
  else (
    ck (mc cs 31 13) (
    ck (inb a1 7) (
    lt_ (ui S3 31 13 a1.toNatClampNeg (2 : Int32)) (fun S8 =>
    some ((1 : Int32), S8)))))))
set_option maxHeartbeats 4000000 in
set_option maxRecDepth 100000 in
theorem c_X9_drop {l : Launch} {D : va_G} {cy : Nat → ClassId} {cs : List (Nat × Nat)} {ad : Nat → Nat → Nat} {Zp : State → Prop} (hA : AdOk cs ad) (hZ : ZOk cs ad Zp) (N : Nat) (a1 : Int32) (S : HS) (r : Int32) (Z : HS) (h : f_X9_drop cs N a1 S = some (r, Z)) : Ctr Zp l yX9_drop cX9_drop 2 (some .boolean) rm_X9_drop D cy cs ad [.ref (ad 30 0), .int a1] S (some (.int r)) Z := by
  unfold f_X9_drop at h
  refine Ctr.of hA hZ RX9 (plainFor_of_name (by decide)) rfl [(0, .ref (ad 30 0)), (1, .int a1)] rfl (Nat.le_of_ble_eq_true rfl) (fun p e s m below meth c B => ?_)
  refine g_aload_n B dX9_drop_0 0 rfl rfl ?_
  refine g_iload_n B dX9_drop_1 1 rfl rfl ?_
  obtain ⟨m1, h⟩ := ck_e h
  obtain ⟨r2, S3, e4, h⟩ := ob_e h
  refine g_cvi (rest := []) B (c_X9_isOpen hA hZ N _ _ _ _ e4) mf_X9_isOpen km_X9_117 ⟨by decide, by decide⟩ ⟨rfl, rfl⟩ m1 rfl rfl rfl rfl (Nat.le_of_ble_eq_true rfl) ⟨Nat.zero_le _, Nat.zero_le _⟩ dX9_drop_2 ?_
  refine g_if_ne B 10 dX9_drop_5 (by decide) (fun q5 => ?_) (fun q5 => ?_)
  · have h := if_f h q5
    refine g_aload_n B dX9_drop_10 0 rfl rfl ?_
    refine gt_X9_16 B m1 kf_X9_49 dX9_drop_11 ?_
    refine g_iload_n B dX9_drop_14 1 rfl rfl ?_
    refine g_iconst (v := (2 : Int32)) B dX9_drop_15 (by decide) ?_
    obtain ⟨m6, h⟩ := ck_e h
    obtain ⟨b7, h⟩ := ck_e h
    obtain ⟨S8, e9, h⟩ := lt_e h
    refine g_iast (n := 7) B m6 b7 (fun _ => rfl) e9 dX9_drop_16 ?_
    refine g_iconst (v := (1 : Int32)) B dX9_drop_17 (by decide) ?_
    obtain ⟨rfl, rfl⟩ := some_e h
    exact g_zret B (by decide) dX9_drop_18
  · have h := if_t h q5
    refine g_iconst (v := (0 : Int32)) B dX9_drop_8 (by decide) ?_
    obtain ⟨rfl, rfl⟩ := some_e h
    exact g_zret B (by decide) dX9_drop_9

def rm_X9_feed : Room := { frames := 0, cells := 0, slots := 0, locals := 0 }
def f_X9_feed_71 (cs : List (Nat × Nat)) (N : Nat) (K18 : Int32 → Int32 → Int32 → Int32 → Int32 → Int32 → HS → Option (Int32 × HS)) (v1 : Int32) (v2 : Int32) (v3 : Int32) (v4 : Int32) (v5 : Int32) (v6 : Int32) (t0 : Int32) (S : HS) : Option (Int32 × HS) :=
  ck (mc cs 30 0) (
  ck (mc cs 31 18) (
  ck (inb (gi S 30 0 24) 500) (
  lt_ (ui S 31 18 (gi S 30 0 24).toNatClampNeg ((t0 >>> (((24 : Int32) - ((8 : Int32) * (v6 - v6 / (4 : Int32) * (4 : Int32)))) &&& 31)) &&& (255 : Int32))) (fun S4 =>
  lt_ (ui S4 30 0 24 ((gi S4 30 0 24) + (1 : Int32))) (fun S6 =>
  lt_ (v6 + (1 : Int32)) (fun x8 =>
  K18 v1 v2 v3 v4 v5 x8 S6))))))
set_option maxHeartbeats 4000000 in
set_option maxRecDepth 100000 in
theorem b_X9_feed_71 {p : Program} {l : Launch} {e : Env} {s : State} {m : MethodId} {args : Array Value} {below : List Frame} {meth : Method} {c : Code} {D : va_G} {cy : Nat → ClassId} {cs : List (Nat × Nat)} {ad : Nat → Nat → Nat} {Zp : State → Prop} {r : Int32} {Z : HS} (B : Bd p s m args meth c D cy cs ad Zp cX9_feed 8 RX9 (some .int)) (N : Nat) (K18 : Int32 → Int32 → Int32 → Int32 → Int32 → Int32 → HS → Option (Int32 × HS)) (hK18 : ∀ (v1 : Int32) (v2 : Int32) (v3 : Int32) (v4 : Int32) (v5 : Int32) (v6 : Int32) (S : HS), K18 v1 v2 v3 v4 v5 v6 S = some (r, Z) → GW p l e rm_X9_feed s m args below meth c (QM below args s D cy cs ad (some (.int r)) Z) D cy cs ad 0 0 8 18 [(0, .ref (ad 30 0)), (1, .int v1), (2, .int v2), (3, .int v3), (4, .int v4), (5, .int v5), (6, .int v6)] [] S) (v1 : Int32) (v2 : Int32) (v3 : Int32) (v4 : Int32) (v5 : Int32) (v6 : Int32) (t0 : Int32) (S : HS) (h : f_X9_feed_71 cs N K18 v1 v2 v3 v4 v5 v6 t0 S = some (r, Z)) : GW p l e rm_X9_feed s m args below meth c (QM below args s D cy cs ad (some (.int r)) Z) D cy cs ad 0 0 8 71 [(0, .ref (ad 30 0)), (1, .int v1), (2, .int v2), (3, .int v3), (4, .int v4), (5, .int v5), (6, .int v6)] [.int t0] S := by
  have hA := B.2.2.2.2.2.2.1
  have hZ := B.2.2.2.2.2.2.2.2.2.2
  unfold f_X9_feed_71 at h
  refine g_istore (lv' := [(7, .int t0), (0, .ref (ad 30 0)), (1, .int v1), (2, .int v2), (3, .int v3), (4, .int v4), (5, .int v5), (6, .int v6)]) B dX9_feed_71 (by decide) rfl ?_
  refine g_aload_n B dX9_feed_73 1 rfl rfl ?_
  obtain ⟨m1, h⟩ := ck_e h
  refine gt_X9_22 B m1 kf_X9_68 dX9_feed_74 ?_
  refine g_aload_n B dX9_feed_77 1 rfl rfl ?_
  refine gt_X9_24 B m1 kf_X9_125 dX9_feed_78 ?_
  refine g_iload B dX9_feed_81 0 rfl ?_
  refine g_bipush (v := (24 : Int32)) B dX9_feed_83 (by decide) ?_
  refine g_bipush (v := (8 : Int32)) B dX9_feed_85 (by decide) ?_
  refine g_iload B dX9_feed_87 7 rfl ?_
  refine g_iconst (v := (4 : Int32)) B dX9_feed_89 (by decide) ?_
  refine g_irem B dX9_feed_90 (by decide) ?_
  refine g_imul B dX9_feed_91 ?_
  refine g_isub B dX9_feed_92 ?_
  refine g_ishr B dX9_feed_93 ?_
  refine g_sipush (v := (255 : Int32)) B dX9_feed_94 (by decide) ?_
  refine g_iand B dX9_feed_97 ?_
  obtain ⟨m2, h⟩ := ck_e h
  obtain ⟨b3, h⟩ := ck_e h
  obtain ⟨S4, e5, h⟩ := lt_e h
  refine g_iast (n := 500) B m2 b3 (fun _ => rfl) e5 dX9_feed_98 ?_
  refine g_aload_n B dX9_feed_99 1 rfl rfl ?_
  refine g_dup B dX9_feed_100 rfl ?_
  refine gt_X9_24 B m1 kf_X9_125 dX9_feed_101 ?_
  refine g_iconst (v := (1 : Int32)) B dX9_feed_104 (by decide) ?_
  refine g_iadd B dX9_feed_105 ?_
  obtain ⟨S6, e7, h⟩ := lt_e h
  refine pt_X9_24 B m1 kf_X9_125 e7 dX9_feed_106 ?_
  obtain ⟨x8, e9, h⟩ := lt_e h
  refine g_iinc (v := x8) (lv' := [(6, .int x8), (7, .int t0), (0, .ref (ad 30 0)), (1, .int v1), (2, .int v2), (3, .int v3), (4, .int v4), (5, .int v5)]) B dX9_feed_109 (k := 7) rfl (by rw [e9]; rfl) (by decide) rfl ?_
  refine g_goto B 18 dX9_feed_112 (by decide) ?_
  refine g_sub [2, 3, 4, 5, 6, 7, 0] rfl ?_
  exact hK18 _ _ _ _ _ _ _ h
def f_X9_feed_18 (cs : List (Nat × Nat)) (N : Nat)  : Nat → Int32 → Int32 → Int32 → Int32 → Int32 → Int32 → HS → Option (Int32 × HS)
  | 0, _, _, _, _, _, _, _ => none
  | n + 1, v1, v2, v3, v4, v5, v6, S =>
    if (20 : Int32) ≤ v6 then (
      ck (mc cs 30 0) (
      some ((gi S 30 0 24), S)))
    else (
      if (4 : Int32) ≤ v6 then (
        if (8 : Int32) ≤ v6 then (
          if (12 : Int32) ≤ v6 then (
            if (16 : Int32) ≤ v6 then (
              f_X9_feed_71 cs N (f_X9_feed_18 cs N n) v1 v2 v3 v4 v5 v6 v5 S)
            else (
              f_X9_feed_71 cs N (f_X9_feed_18 cs N n) v1 v2 v3 v4 v5 v6 v4 S))
          else (
            f_X9_feed_71 cs N (f_X9_feed_18 cs N n) v1 v2 v3 v4 v5 v6 v3 S))
        else (
          f_X9_feed_71 cs N (f_X9_feed_18 cs N n) v1 v2 v3 v4 v5 v6 v2 S))
      else (
        f_X9_feed_71 cs N (f_X9_feed_18 cs N n) v1 v2 v3 v4 v5 v6 v1 S))
set_option maxHeartbeats 4000000 in
set_option maxRecDepth 100000 in
theorem b_X9_feed_18 {p : Program} {l : Launch} {e : Env} {s : State} {m : MethodId} {args : Array Value} {below : List Frame} {meth : Method} {c : Code} {D : va_G} {cy : Nat → ClassId} {cs : List (Nat × Nat)} {ad : Nat → Nat → Nat} {Zp : State → Prop} {r : Int32} {Z : HS} (B : Bd p s m args meth c D cy cs ad Zp cX9_feed 8 RX9 (some .int)) (N : Nat)  : ∀ (n : Nat) (v1 : Int32) (v2 : Int32) (v3 : Int32) (v4 : Int32) (v5 : Int32) (v6 : Int32) (S : HS), f_X9_feed_18 cs N n v1 v2 v3 v4 v5 v6 S = some (r, Z) → GW p l e rm_X9_feed s m args below meth c (QM below args s D cy cs ad (some (.int r)) Z) D cy cs ad 0 0 8 18 [(0, .ref (ad 30 0)), (1, .int v1), (2, .int v2), (3, .int v3), (4, .int v4), (5, .int v5), (6, .int v6)] [] S := by
  have hA := B.2.2.2.2.2.2.1
  have hZ := B.2.2.2.2.2.2.2.2.2.2
  intro n
  induction n with
  | zero => intro v1 v2 v3 v4 v5 v6 S h; cases h
  | succ n ih =>
    intro v1 v2 v3 v4 v5 v6 S h
    rw [f_X9_feed_18] at h
    refine g_iload B dX9_feed_18 6 rfl ?_
    refine g_bipush (v := (20 : Int32)) B dX9_feed_20 (by decide) ?_
    refine g_icmp_ge B 115 dX9_feed_22 (by decide) (fun q1 => ?_) (fun q1 => ?_)
    · have h := if_t h q1
      refine g_aload_n B dX9_feed_115 0 rfl rfl ?_
      obtain ⟨m2, h⟩ := ck_e h
      refine gt_X9_24 B m2 kf_X9_125 dX9_feed_116 ?_
      obtain ⟨rfl, rfl⟩ := some_e h
      exact g_iret B dX9_feed_119
    · have h := if_f h q1
      refine g_iload B dX9_feed_25 6 rfl ?_
      refine g_iconst (v := (4 : Int32)) B dX9_feed_27 (by decide) ?_
      refine g_icmp_ge B 35 dX9_feed_28 (by decide) (fun q3 => ?_) (fun q3 => ?_)
      · have h := if_t h q3
        refine g_iload B dX9_feed_35 6 rfl ?_
        refine g_bipush (v := (8 : Int32)) B dX9_feed_37 (by decide) ?_
        refine g_icmp_ge B 46 dX9_feed_39 (by decide) (fun q4 => ?_) (fun q4 => ?_)
        · have h := if_t h q4
          refine g_iload B dX9_feed_46 6 rfl ?_
          refine g_bipush (v := (12 : Int32)) B dX9_feed_48 (by decide) ?_
          refine g_icmp_ge B 57 dX9_feed_50 (by decide) (fun q5 => ?_) (fun q5 => ?_)
          · have h := if_t h q5
            refine g_iload B dX9_feed_57 6 rfl ?_
            refine g_bipush (v := (16 : Int32)) B dX9_feed_59 (by decide) ?_
            refine g_icmp_ge B 69 dX9_feed_61 (by decide) (fun q6 => ?_) (fun q6 => ?_)
            · have h := if_t h q6
              refine g_iload B dX9_feed_69 5 rfl ?_
              exact b_X9_feed_71 B N _ ih _ _ _ _ _ _ _ _ h
            · have h := if_f h q6
              refine g_iload B dX9_feed_64 4 rfl ?_
              refine g_goto B 71 dX9_feed_66 (by decide) ?_
              exact b_X9_feed_71 B N _ ih _ _ _ _ _ _ _ _ h
          · have h := if_f h q5
            refine g_iload_n B dX9_feed_53 3 rfl rfl ?_
            refine g_goto B 71 dX9_feed_54 (by decide) ?_
            exact b_X9_feed_71 B N _ ih _ _ _ _ _ _ _ _ h
        · have h := if_f h q4
          refine g_iload_n B dX9_feed_42 2 rfl rfl ?_
          refine g_goto B 71 dX9_feed_43 (by decide) ?_
          exact b_X9_feed_71 B N _ ih _ _ _ _ _ _ _ _ h
      · have h := if_f h q3
        refine g_iload_n B dX9_feed_31 1 rfl rfl ?_
        refine g_goto B 71 dX9_feed_32 (by decide) ?_
        exact b_X9_feed_71 B N _ ih _ _ _ _ _ _ _ _ h
def f_X9_feed (cs : List (Nat × Nat)) (N : Nat) (a1 : Int32) (a2 : Int32) (a3 : Int32) (a4 : Int32) (a5 : Int32) (S : HS) : Option (Int32 × HS) :=
  ck (mc cs 30 0) (
  if ((gi S 30 0 24) + (20 : Int32)) ≤ (500 : Int32) then (
    f_X9_feed_18 cs N N a1 a2 a3 a4 a5 (0 : Int32) S)
  else (
    some ((-1 : Int32), S)))
set_option maxHeartbeats 4000000 in
set_option maxRecDepth 100000 in
theorem c_X9_feed {l : Launch} {D : va_G} {cy : Nat → ClassId} {cs : List (Nat × Nat)} {ad : Nat → Nat → Nat} {Zp : State → Prop} (hA : AdOk cs ad) (hZ : ZOk cs ad Zp) (N : Nat) (a1 : Int32) (a2 : Int32) (a3 : Int32) (a4 : Int32) (a5 : Int32) (S : HS) (r : Int32) (Z : HS) (h : f_X9_feed cs N a1 a2 a3 a4 a5 S = some (r, Z)) : Ctr Zp l yX9_feed cX9_feed 8 (some .int) rm_X9_feed D cy cs ad [.ref (ad 30 0), .int a1, .int a2, .int a3, .int a4, .int a5] S (some (.int r)) Z := by
  unfold f_X9_feed at h
  refine Ctr.of hA hZ RX9 (plainFor_of_name (by decide)) rfl [(0, .ref (ad 30 0)), (1, .int a1), (2, .int a2), (3, .int a3), (4, .int a4), (5, .int a5)] rfl (Nat.le_of_ble_eq_true rfl) (fun p e s m below meth c B => ?_)
  refine g_aload_n B dX9_feed_0 0 rfl rfl ?_
  obtain ⟨m1, h⟩ := ck_e h
  refine gt_X9_24 B m1 kf_X9_125 dX9_feed_1 ?_
  refine g_bipush (v := (20 : Int32)) B dX9_feed_4 (by decide) ?_
  refine g_iadd B dX9_feed_6 ?_
  refine g_sipush (v := (500 : Int32)) B dX9_feed_7 (by decide) ?_
  refine g_icmp_le B 15 dX9_feed_10 (by decide) (fun q2 => ?_) (fun q2 => ?_)
  · have h := if_t h q2
    refine g_iconst (v := (0 : Int32)) B dX9_feed_15 (by decide) ?_
    refine g_istore (lv' := [(6, .int (0 : Int32)), (0, .ref (ad 30 0)), (1, .int a1), (2, .int a2), (3, .int a3), (4, .int a4), (5, .int a5)]) B dX9_feed_16 (by decide) rfl ?_
    refine g_sub [1, 2, 3, 4, 5, 6, 0] rfl ?_
    exact b_X9_feed_18 B N N _ _ _ _ _ _ _ h
  · have h := if_f h q2
    refine g_iconst (v := (-1 : Int32)) B dX9_feed_13 (by decide) ?_
    obtain ⟨rfl, rfl⟩ := some_e h
    exact g_iret B dX9_feed_14

def rm_X9_end : Room := { frames := 1, cells := 0, slots := 0, locals := 22 }
def f_X9_end (cs : List (Nat × Nat)) (N : Nat) (a1 : Int32) (S : HS) : Option (Int32 × HS) :=
  ck (mc cs 30 0) (
  ob (f_X9_isIn cs N a1 (0 : Int32) (gi S 30 0 24) S) (fun r2 S3 =>
  if r2 = 0 then (
    some ((0 : Int32), S3))
  else (
    lt_ (ui S3 30 0 24 a1) (fun S6 =>
    some ((1 : Int32), S6)))))
set_option maxHeartbeats 4000000 in
set_option maxRecDepth 100000 in
theorem c_X9_end {l : Launch} {D : va_G} {cy : Nat → ClassId} {cs : List (Nat × Nat)} {ad : Nat → Nat → Nat} {Zp : State → Prop} (hA : AdOk cs ad) (hZ : ZOk cs ad Zp) (N : Nat) (a1 : Int32) (S : HS) (r : Int32) (Z : HS) (h : f_X9_end cs N a1 S = some (r, Z)) : Ctr Zp l yX9_end cX9_end 2 (some .boolean) rm_X9_end D cy cs ad [.ref (ad 30 0), .int a1] S (some (.int r)) Z := by
  unfold f_X9_end at h
  refine Ctr.of hA hZ RX9 (plainFor_of_name (by decide)) rfl [(0, .ref (ad 30 0)), (1, .int a1)] rfl (Nat.le_of_ble_eq_true rfl) (fun p e s m below meth c B => ?_)
  refine g_iload_n B dX9_end_0 1 rfl rfl ?_
  refine g_iconst (v := (0 : Int32)) B dX9_end_1 (by decide) ?_
  refine g_aload_n B dX9_end_2 0 rfl rfl ?_
  obtain ⟨m1, h⟩ := ck_e h
  refine gt_X9_24 B m1 kf_X9_125 dX9_end_3 ?_
  obtain ⟨r2, S3, e4, h⟩ := ob_e h
  refine g_csi (rest := []) B (c_X9_isIn hA hZ N _ _ _ _ _ _ e4) mf_X9_isIn km_X9_96 ⟨by decide, by decide⟩ ⟨rfl, rfl⟩ rfl rfl (Nat.le_of_ble_eq_true rfl) ⟨Nat.zero_le _, Nat.zero_le _⟩ dX9_end_6 ?_
  refine g_if_ne B 14 dX9_end_9 (by decide) (fun q5 => ?_) (fun q5 => ?_)
  · have h := if_f h q5
    refine g_aload_n B dX9_end_14 0 rfl rfl ?_
    refine g_iload_n B dX9_end_15 1 rfl rfl ?_
    obtain ⟨S6, e7, h⟩ := lt_e h
    refine pt_X9_24 B m1 kf_X9_125 e7 dX9_end_16 ?_
    refine g_iconst (v := (1 : Int32)) B dX9_end_19 (by decide) ?_
    obtain ⟨rfl, rfl⟩ := some_e h
    exact g_zret B (by decide) dX9_end_20
  · have h := if_t h q5
    refine g_iconst (v := (0 : Int32)) B dX9_end_12 (by decide) ?_
    obtain ⟨rfl, rfl⟩ := some_e h
    exact g_zret B (by decide) dX9_end_13

def rm_X9_see : Room := { frames := 0, cells := 0, slots := 0, locals := 0 }
def f_X9_see (cs : List (Nat × Nat)) (N : Nat) (a1 : Int32) (S : HS) : Option (Int32 × HS) :=
  ck (mc cs 30 0) (
  if (gi S 30 0 24) ≤ a1 then (
    some ((-1 : Int32), S))
  else (
    ck (mc cs 31 18) (
    ck (inb a1 500) (
    some ((gi S 31 18 a1.toNatClampNeg), S)))))
set_option maxHeartbeats 4000000 in
set_option maxRecDepth 100000 in
theorem c_X9_see {l : Launch} {D : va_G} {cy : Nat → ClassId} {cs : List (Nat × Nat)} {ad : Nat → Nat → Nat} {Zp : State → Prop} (hA : AdOk cs ad) (hZ : ZOk cs ad Zp) (N : Nat) (a1 : Int32) (S : HS) (r : Int32) (Z : HS) (h : f_X9_see cs N a1 S = some (r, Z)) : Ctr Zp l yX9_see cX9_see 2 (some .int) rm_X9_see D cy cs ad [.ref (ad 30 0), .int a1] S (some (.int r)) Z := by
  unfold f_X9_see at h
  refine Ctr.of hA hZ RX9 (plainFor_of_name (by decide)) rfl [(0, .ref (ad 30 0)), (1, .int a1)] rfl (Nat.le_of_ble_eq_true rfl) (fun p e s m below meth c B => ?_)
  refine g_iload_n B dX9_see_0 1 rfl rfl ?_
  refine g_aload_n B dX9_see_1 0 rfl rfl ?_
  obtain ⟨m1, h⟩ := ck_e h
  refine gt_X9_24 B m1 kf_X9_125 dX9_see_2 ?_
  refine g_icmp_ge B 17 dX9_see_5 (by decide) (fun q2 => ?_) (fun q2 => ?_)
  · have h := if_t h q2
    refine g_iconst (v := (-1 : Int32)) B dX9_see_17 (by decide) ?_
    obtain ⟨rfl, rfl⟩ := some_e h
    exact g_iret B dX9_see_18
  · have h := if_f h q2
    refine g_aload_n B dX9_see_8 0 rfl rfl ?_
    refine gt_X9_22 B m1 kf_X9_68 dX9_see_9 ?_
    refine g_iload_n B dX9_see_12 1 rfl rfl ?_
    obtain ⟨m3, h⟩ := ck_e h
    obtain ⟨b4, h⟩ := ck_e h
    refine g_iald (n := 500) B m3 (fun _ => rfl) b4 dX9_see_13 ?_
    refine g_goto B 18 dX9_see_14 (by decide) ?_
    obtain ⟨rfl, rfl⟩ := some_e h
    exact g_iret B dX9_see_18

def rm_X9_isLetter : Room := { frames := 1, cells := 0, slots := 0, locals := 22 }
def f_X9_isLetter (cs : List (Nat × Nat)) (N : Nat) (a1 : Int32) (S : HS) : Option (Int32 × HS) :=
  ob (f_X9_isIn cs N a1 (97 : Int32) (122 : Int32) S) (fun r1 S2 =>
  if r1 = 0 then (
    ob (f_X9_isIn cs N a1 (65 : Int32) (90 : Int32) S2) (fun r5 S6 =>
    if r5 = 0 then (
      some ((0 : Int32), S6))
    else (
      some ((1 : Int32), S6))))
  else (
    some ((1 : Int32), S2)))
set_option maxHeartbeats 4000000 in
set_option maxRecDepth 100000 in
theorem c_X9_isLetter {l : Launch} {D : va_G} {cy : Nat → ClassId} {cs : List (Nat × Nat)} {ad : Nat → Nat → Nat} {Zp : State → Prop} (hA : AdOk cs ad) (hZ : ZOk cs ad Zp) (N : Nat) (a1 : Int32) (S : HS) (r : Int32) (Z : HS) (h : f_X9_isLetter cs N a1 S = some (r, Z)) : Ctr Zp l yX9_isLetter cX9_isLetter 1 (some .boolean) rm_X9_isLetter D cy cs ad [.int a1] S (some (.int r)) Z := by
  unfold f_X9_isLetter at h
  refine Ctr.of hA hZ RX9 (plainFor_of_name (by decide)) rfl [(0, .int a1)] rfl (Nat.le_of_ble_eq_true rfl) (fun p e s m below meth c B => ?_)
  refine g_iload_n B dX9_isLetter_0 0 rfl rfl ?_
  refine g_bipush (v := (97 : Int32)) B dX9_isLetter_1 (by decide) ?_
  refine g_bipush (v := (122 : Int32)) B dX9_isLetter_3 (by decide) ?_
  obtain ⟨r1, S2, e3, h⟩ := ob_e h
  refine g_csi (rest := []) B (c_X9_isIn hA hZ N _ _ _ _ _ _ e3) mf_X9_isIn km_X9_96 ⟨by decide, by decide⟩ ⟨rfl, rfl⟩ rfl rfl (Nat.le_of_ble_eq_true rfl) ⟨Nat.zero_le _, Nat.zero_le _⟩ dX9_isLetter_5 ?_
  refine g_if_ne B 22 dX9_isLetter_8 (by decide) (fun q4 => ?_) (fun q4 => ?_)
  · have h := if_f h q4
    refine g_iconst (v := (1 : Int32)) B dX9_isLetter_22 (by decide) ?_
    refine g_goto B 27 dX9_isLetter_23 (by decide) ?_
    obtain ⟨rfl, rfl⟩ := some_e h
    exact g_zret B (by decide) dX9_isLetter_27
  · have h := if_t h q4
    refine g_iload_n B dX9_isLetter_11 0 rfl rfl ?_
    refine g_bipush (v := (65 : Int32)) B dX9_isLetter_12 (by decide) ?_
    refine g_bipush (v := (90 : Int32)) B dX9_isLetter_14 (by decide) ?_
    obtain ⟨r5, S6, e7, h⟩ := ob_e h
    refine g_csi (rest := []) B (c_X9_isIn hA hZ N _ _ _ _ _ _ e7) mf_X9_isIn km_X9_96 ⟨by decide, by decide⟩ ⟨rfl, rfl⟩ rfl rfl (Nat.le_of_ble_eq_true rfl) ⟨Nat.zero_le _, Nat.zero_le _⟩ dX9_isLetter_16 ?_
    refine g_if_eq B 26 dX9_isLetter_19 (by decide) (fun q8 => ?_) (fun q8 => ?_)
    · have h := if_t h q8
      refine g_iconst (v := (0 : Int32)) B dX9_isLetter_26 (by decide) ?_
      obtain ⟨rfl, rfl⟩ := some_e h
      exact g_zret B (by decide) dX9_isLetter_27
    · have h := if_f h q8
      refine g_iconst (v := (1 : Int32)) B dX9_isLetter_22 (by decide) ?_
      refine g_goto B 27 dX9_isLetter_23 (by decide) ?_
      obtain ⟨rfl, rfl⟩ := some_e h
      exact g_zret B (by decide) dX9_isLetter_27

def rm_X9_isDigit : Room := { frames := 1, cells := 0, slots := 0, locals := 22 }
def f_X9_isDigit (cs : List (Nat × Nat)) (N : Nat) (a1 : Int32) (S : HS) : Option (Int32 × HS) :=
  ob (f_X9_isIn cs N a1 (48 : Int32) (57 : Int32) S) (fun r1 S2 =>
  ck (b01 r1) (
  some (r1, S2)))
set_option maxHeartbeats 4000000 in
set_option maxRecDepth 100000 in
theorem c_X9_isDigit {l : Launch} {D : va_G} {cy : Nat → ClassId} {cs : List (Nat × Nat)} {ad : Nat → Nat → Nat} {Zp : State → Prop} (hA : AdOk cs ad) (hZ : ZOk cs ad Zp) (N : Nat) (a1 : Int32) (S : HS) (r : Int32) (Z : HS) (h : f_X9_isDigit cs N a1 S = some (r, Z)) : Ctr Zp l yX9_isDigit cX9_isDigit 1 (some .boolean) rm_X9_isDigit D cy cs ad [.int a1] S (some (.int r)) Z := by
  unfold f_X9_isDigit at h
  refine Ctr.of hA hZ RX9 (plainFor_of_name (by decide)) rfl [(0, .int a1)] rfl (Nat.le_of_ble_eq_true rfl) (fun p e s m below meth c B => ?_)
  refine g_iload_n B dX9_isDigit_0 0 rfl rfl ?_
  refine g_bipush (v := (48 : Int32)) B dX9_isDigit_1 (by decide) ?_
  refine g_bipush (v := (57 : Int32)) B dX9_isDigit_3 (by decide) ?_
  obtain ⟨r1, S2, e3, h⟩ := ob_e h
  refine g_csi (rest := []) B (c_X9_isIn hA hZ N _ _ _ _ _ _ e3) mf_X9_isIn km_X9_96 ⟨by decide, by decide⟩ ⟨rfl, rfl⟩ rfl rfl (Nat.le_of_ble_eq_true rfl) ⟨Nat.zero_le _, Nat.zero_le _⟩ dX9_isDigit_5 ?_
  obtain ⟨b4, h⟩ := ck_e h
  obtain ⟨rfl, rfl⟩ := some_e h
  exact g_zret B b4 dX9_isDigit_8

def rm_X9_word : Room := { frames := 0, cells := 0, slots := 0, locals := 0 }
def f_X9_word (cs : List (Nat × Nat)) (N : Nat) (a1 : Int64) (S : HS) : Option (Int32 × HS) :=
  if (lg_cmp a1 (7305070 : Int64)) = 0 then (
    some ((3 : Int32), S))
  else (
    if (lg_cmp a1 (1818586724 : Int64)) = 0 then (
      some ((4 : Int32), S))
    else (
      if (lg_cmp a1 (6447474 : Int64)) = 0 then (
        some ((5 : Int32), S))
      else (
        if (lg_cmp a1 (1718773093 : Int64)) = 0 then (
          some ((6 : Int32), S))
        else (
          if (lg_cmp a1 (25209 : Int64)) = 0 then (
            some ((7 : Int32), S))
          else (
            if (lg_cmp a1 (29807 : Int64)) = 0 then (
              some ((8 : Int32), S))
            else (
              if (lg_cmp a1 (504364296556 : Int64)) = 0 then (
                some ((9 : Int32), S))
              else (
                if (lg_cmp a1 (1718775661 : Int64)) = 0 then (
                  some ((10 : Int32), S))
                else (
                  some ((1 : Int32), S)))))))))
set_option maxHeartbeats 4000000 in
set_option maxRecDepth 100000 in
theorem c_X9_word {l : Launch} {D : va_G} {cy : Nat → ClassId} {cs : List (Nat × Nat)} {ad : Nat → Nat → Nat} {Zp : State → Prop} (hA : AdOk cs ad) (hZ : ZOk cs ad Zp) (N : Nat) (a1 : Int64) (S : HS) (r : Int32) (Z : HS) (h : f_X9_word cs N a1 S = some (r, Z)) : Ctr Zp l yX9_word cX9_word 2 (some .int) rm_X9_word D cy cs ad [.long a1] S (some (.int r)) Z := by
  unfold f_X9_word at h
  refine Ctr.of hA hZ RX9 (plainFor_of_name (by decide)) rfl [(0, .long a1)] rfl (Nat.le_of_ble_eq_true rfl) (fun p e s m below meth c B => ?_)
  refine g_lload_n B dX9_word_0 0 rfl rfl ?_
  refine g_ldc2 (v := (7305070 : Int64)) B dX9_word_1 kk_X9_128 ?_
  refine g_lcmp B dX9_word_4 ?_
  refine g_if_ne B 10 dX9_word_5 (by decide) (fun q1 => ?_) (fun q1 => ?_)
  · have h := if_f h q1
    refine g_lload_n B dX9_word_10 0 rfl rfl ?_
    refine g_ldc2 (v := (1818586724 : Int64)) B dX9_word_11 kk_X9_130 ?_
    refine g_lcmp B dX9_word_14 ?_
    refine g_if_ne B 20 dX9_word_15 (by decide) (fun q2 => ?_) (fun q2 => ?_)
    · have h := if_f h q2
      refine g_lload_n B dX9_word_20 0 rfl rfl ?_
      refine g_ldc2 (v := (6447474 : Int64)) B dX9_word_21 kk_X9_132 ?_
      refine g_lcmp B dX9_word_24 ?_
      refine g_if_ne B 30 dX9_word_25 (by decide) (fun q3 => ?_) (fun q3 => ?_)
      · have h := if_f h q3
        refine g_lload_n B dX9_word_30 0 rfl rfl ?_
        refine g_ldc2 (v := (1718773093 : Int64)) B dX9_word_31 kk_X9_134 ?_
        refine g_lcmp B dX9_word_34 ?_
        refine g_if_ne B 41 dX9_word_35 (by decide) (fun q4 => ?_) (fun q4 => ?_)
        · have h := if_f h q4
          refine g_lload_n B dX9_word_41 0 rfl rfl ?_
          refine g_ldc2 (v := (25209 : Int64)) B dX9_word_42 kk_X9_136 ?_
          refine g_lcmp B dX9_word_45 ?_
          refine g_if_ne B 52 dX9_word_46 (by decide) (fun q5 => ?_) (fun q5 => ?_)
          · have h := if_f h q5
            refine g_lload_n B dX9_word_52 0 rfl rfl ?_
            refine g_ldc2 (v := (29807 : Int64)) B dX9_word_53 kk_X9_138 ?_
            refine g_lcmp B dX9_word_56 ?_
            refine g_if_ne B 63 dX9_word_57 (by decide) (fun q6 => ?_) (fun q6 => ?_)
            · have h := if_f h q6
              refine g_lload_n B dX9_word_63 0 rfl rfl ?_
              refine g_ldc2 (v := (504364296556 : Int64)) B dX9_word_64 kk_X9_140 ?_
              refine g_lcmp B dX9_word_67 ?_
              refine g_if_ne B 74 dX9_word_68 (by decide) (fun q7 => ?_) (fun q7 => ?_)
              · have h := if_f h q7
                refine g_lload_n B dX9_word_74 0 rfl rfl ?_
                refine g_ldc2 (v := (1718775661 : Int64)) B dX9_word_75 kk_X9_142 ?_
                refine g_lcmp B dX9_word_78 ?_
                refine g_if_ne B 87 dX9_word_79 (by decide) (fun q8 => ?_) (fun q8 => ?_)
                · have h := if_f h q8
                  refine g_iconst (v := (1 : Int32)) B dX9_word_87 (by decide) ?_
                  obtain ⟨rfl, rfl⟩ := some_e h
                  exact g_iret B dX9_word_88
                · have h := if_t h q8
                  refine g_bipush (v := (10 : Int32)) B dX9_word_82 (by decide) ?_
                  refine g_goto B 88 dX9_word_84 (by decide) ?_
                  obtain ⟨rfl, rfl⟩ := some_e h
                  exact g_iret B dX9_word_88
              · have h := if_t h q7
                refine g_bipush (v := (9 : Int32)) B dX9_word_71 (by decide) ?_
                obtain ⟨rfl, rfl⟩ := some_e h
                exact g_iret B dX9_word_73
            · have h := if_t h q6
              refine g_bipush (v := (8 : Int32)) B dX9_word_60 (by decide) ?_
              obtain ⟨rfl, rfl⟩ := some_e h
              exact g_iret B dX9_word_62
          · have h := if_t h q5
            refine g_bipush (v := (7 : Int32)) B dX9_word_49 (by decide) ?_
            obtain ⟨rfl, rfl⟩ := some_e h
            exact g_iret B dX9_word_51
        · have h := if_t h q4
          refine g_bipush (v := (6 : Int32)) B dX9_word_38 (by decide) ?_
          obtain ⟨rfl, rfl⟩ := some_e h
          exact g_iret B dX9_word_40
      · have h := if_t h q3
        refine g_iconst (v := (5 : Int32)) B dX9_word_28 (by decide) ?_
        obtain ⟨rfl, rfl⟩ := some_e h
        exact g_iret B dX9_word_29
    · have h := if_t h q2
      refine g_iconst (v := (4 : Int32)) B dX9_word_18 (by decide) ?_
      obtain ⟨rfl, rfl⟩ := some_e h
      exact g_iret B dX9_word_19
  · have h := if_t h q1
    refine g_iconst (v := (3 : Int32)) B dX9_word_8 (by decide) ?_
    obtain ⟨rfl, rfl⟩ := some_e h
    exact g_iret B dX9_word_9

def rm_X9_next0 : Room := { frames := 2, cells := 0, slots := 0, locals := 42 }
def f_X9_next0_115 (cs : List (Nat × Nat)) (N : Nat) (K80 : Int32 → Int64 → HS → Option (Unit × HS)) (v2 : Int32) (v3 : Int64) (S : HS) : Option (Unit × HS) :=
  lt_ (v2 + (1 : Int32)) (fun x1 =>
  ck (mc cs 30 0) (
  lt_ (ui S 30 0 25 ((gi S 30 0 25) + (1 : Int32))) (fun S4 =>
  K80 x1 v3 S4)))
set_option maxHeartbeats 4000000 in
set_option maxRecDepth 100000 in
theorem b_X9_next0_115 {p : Program} {l : Launch} {e : Env} {s : State} {m : MethodId} {args : Array Value} {below : List Frame} {meth : Method} {c : Code} {D : va_G} {cy : Nat → ClassId} {cs : List (Nat × Nat)} {ad : Nat → Nat → Nat} {Zp : State → Prop} {r : Unit} {Z : HS} (B : Bd p s m args meth c D cy cs ad Zp cX9_next0 5 RX9 none) (N : Nat) (K80 : Int32 → Int64 → HS → Option (Unit × HS)) (hK80 : ∀ (v2 : Int32) (v3 : Int64) (S : HS), K80 v2 v3 S = some (r, Z) → GW p l e rm_X9_next0 s m args below meth c (QM below args s D cy cs ad (none) Z) D cy cs ad 0 0 5 80 [(0, .ref (ad 30 0)), (2, .int v2), (3, .long v3)] [] S) (v2 : Int32) (v3 : Int64) (S : HS) (h : f_X9_next0_115 cs N K80 v2 v3 S = some (r, Z)) : GW p l e rm_X9_next0 s m args below meth c (QM below args s D cy cs ad (none) Z) D cy cs ad 0 0 5 115 [(0, .ref (ad 30 0)), (2, .int v2), (3, .long v3)] [] S := by
  have hA := B.2.2.2.2.2.2.1
  have hZ := B.2.2.2.2.2.2.2.2.2.2
  unfold f_X9_next0_115 at h
  obtain ⟨x1, e2, h⟩ := lt_e h
  refine g_iinc (v := x1) (lv' := [(2, .int x1), (0, .ref (ad 30 0)), (3, .long v3)]) B dX9_next0_115 (k := 1) rfl (by rw [e2]; rfl) (by decide) rfl ?_
  refine g_aload_n B dX9_next0_118 1 rfl rfl ?_
  refine g_dup B dX9_next0_119 rfl ?_
  obtain ⟨m3, h⟩ := ck_e h
  refine gt_X9_25 B m3 kf_X9_144 dX9_next0_120 ?_
  refine g_iconst (v := (1 : Int32)) B dX9_next0_123 (by decide) ?_
  refine g_iadd B dX9_next0_124 ?_
  obtain ⟨S4, e5, h⟩ := lt_e h
  refine pt_X9_25 B m3 kf_X9_144 e5 dX9_next0_125 ?_
  refine g_goto B 80 dX9_next0_128 (by decide) ?_
  refine g_sub [1, 0, 2] rfl ?_
  exact hK80 _ _ _ h
def f_X9_next0_80 (cs : List (Nat × Nat)) (N : Nat)  : Nat → Int32 → Int64 → HS → Option (Unit × HS)
  | 0, _, _, _ => none
  | n + 1, v2, v3, S =>
    ck (mc cs 30 0) (
    ob (f_X9_see cs N (gi S 30 0 25) S) (fun r2 S3 =>
    ob (f_X9_isLetter cs N r2 S3) (fun r5 S6 =>
    if r5 = 0 then (
      if (6 : Int32) ≤ v2 then (
        lt_ (ui S6 30 0 26 (1 : Int32)) (fun S10 =>
        some ((), S10)))
      else (
        ob (f_X9_word cs N v3 S6) (fun r12 S13 =>
        lt_ (ui S13 30 0 26 r12) (fun S15 =>
        some ((), S15)))))
    else (
      if (6 : Int32) ≤ v2 then (
        f_X9_next0_115 cs N (f_X9_next0_80 cs N n) v2 v3 S6)
      else (
        ob (f_X9_see cs N (gi S6 30 0 25) S6) (fun r18 S19 =>
        lt_ (((v3 <<< ((8 : Int32).toInt64 &&& 63)) ||| (r18.toInt64))) (fun x21 =>
        f_X9_next0_115 cs N (f_X9_next0_80 cs N n) v2 x21 S19)))))))
set_option maxHeartbeats 4000000 in
set_option maxRecDepth 100000 in
theorem b_X9_next0_80 {p : Program} {l : Launch} {e : Env} {s : State} {m : MethodId} {args : Array Value} {below : List Frame} {meth : Method} {c : Code} {D : va_G} {cy : Nat → ClassId} {cs : List (Nat × Nat)} {ad : Nat → Nat → Nat} {Zp : State → Prop} {r : Unit} {Z : HS} (B : Bd p s m args meth c D cy cs ad Zp cX9_next0 5 RX9 none) (N : Nat)  : ∀ (n : Nat) (v2 : Int32) (v3 : Int64) (S : HS), f_X9_next0_80 cs N n v2 v3 S = some (r, Z) → GW p l e rm_X9_next0 s m args below meth c (QM below args s D cy cs ad (none) Z) D cy cs ad 0 0 5 80 [(0, .ref (ad 30 0)), (2, .int v2), (3, .long v3)] [] S := by
  have hA := B.2.2.2.2.2.2.1
  have hZ := B.2.2.2.2.2.2.2.2.2.2
  intro n
  induction n with
  | zero => intro v2 v3 S h; cases h
  | succ n ih =>
    intro v2 v3 S h
    rw [f_X9_next0_80] at h
    refine g_aload_n B dX9_next0_80 0 rfl rfl ?_
    refine g_aload_n B dX9_next0_81 0 rfl rfl ?_
    obtain ⟨m1, h⟩ := ck_e h
    refine gt_X9_25 B m1 kf_X9_144 dX9_next0_82 ?_
    obtain ⟨r2, S3, e4, h⟩ := ob_e h
    refine g_cvi (rest := []) B (c_X9_see hA hZ N _ _ _ _ e4) mf_X9_see km_X9_147 ⟨by decide, by decide⟩ ⟨rfl, rfl⟩ m1 rfl rfl rfl rfl (Nat.le_of_ble_eq_true rfl) ⟨Nat.zero_le _, Nat.zero_le _⟩ dX9_next0_85 ?_
    obtain ⟨r5, S6, e7, h⟩ := ob_e h
    refine g_csi (rest := []) B (c_X9_isLetter hA hZ N _ _ _ _ e7) mf_X9_isLetter km_X9_157 ⟨by decide, by decide⟩ ⟨rfl, rfl⟩ rfl rfl (Nat.le_of_ble_eq_true rfl) ⟨Nat.zero_le _, Nat.zero_le _⟩ dX9_next0_88 ?_
    refine g_if_eq B 131 dX9_next0_91 (by decide) (fun q8 => ?_) (fun q8 => ?_)
    · have h := if_t h q8
      refine g_aload_n B dX9_next0_131 0 rfl rfl ?_
      refine g_iload_n B dX9_next0_132 1 rfl rfl ?_
      refine g_bipush (v := (6 : Int32)) B dX9_next0_133 (by decide) ?_
      refine g_icmp_ge B 145 dX9_next0_135 (by decide) (fun q9 => ?_) (fun q9 => ?_)
      · have h := if_t h q9
        refine g_iconst (v := (1 : Int32)) B dX9_next0_145 (by decide) ?_
        obtain ⟨S10, e11, h⟩ := lt_e h
        refine pt_X9_26 B m1 kf_X9_154 e11 dX9_next0_146 ?_
        refine g_goto B 264 dX9_next0_149 (by decide) ?_
        obtain ⟨-, rfl⟩ := some_e h
        exact g_vret B dX9_next0_264
      · have h := if_f h q9
        refine g_lload_n B dX9_next0_138 2 rfl rfl ?_
        obtain ⟨r12, S13, e14, h⟩ := ob_e h
        refine g_csi (rest := [.ref (ad 30 0)]) B (c_X9_word hA hZ N _ _ _ _ e14) mf_X9_word km_X9_160 ⟨by decide, by decide⟩ ⟨rfl, rfl⟩ rfl rfl (Nat.le_of_ble_eq_true rfl) ⟨Nat.zero_le _, Nat.zero_le _⟩ dX9_next0_139 ?_
        refine g_goto B 146 dX9_next0_142 (by decide) ?_
        obtain ⟨S15, e16, h⟩ := lt_e h
        refine pt_X9_26 B m1 kf_X9_154 e16 dX9_next0_146 ?_
        refine g_goto B 264 dX9_next0_149 (by decide) ?_
        obtain ⟨-, rfl⟩ := some_e h
        exact g_vret B dX9_next0_264
    · have h := if_f h q8
      refine g_iload_n B dX9_next0_94 1 rfl rfl ?_
      refine g_bipush (v := (6 : Int32)) B dX9_next0_95 (by decide) ?_
      refine g_icmp_ge B 115 dX9_next0_97 (by decide) (fun q17 => ?_) (fun q17 => ?_)
      · have h := if_t h q17
        exact b_X9_next0_115 B N _ ih _ _ _ h
      · have h := if_f h q17
        refine g_lload_n B dX9_next0_100 2 rfl rfl ?_
        refine g_bipush (v := (8 : Int32)) B dX9_next0_101 (by decide) ?_
        refine g_lshl B dX9_next0_103 ?_
        refine g_aload_n B dX9_next0_104 0 rfl rfl ?_
        refine g_aload_n B dX9_next0_105 0 rfl rfl ?_
        refine gt_X9_25 B m1 kf_X9_144 dX9_next0_106 ?_
        obtain ⟨r18, S19, e20, h⟩ := ob_e h
        refine g_cvi (rest := [.long (v3 <<< ((8 : Int32).toInt64 &&& 63))]) B (c_X9_see hA hZ N _ _ _ _ e20) mf_X9_see km_X9_147 ⟨by decide, by decide⟩ ⟨rfl, rfl⟩ m1 rfl rfl rfl rfl (Nat.le_of_ble_eq_true rfl) ⟨Nat.zero_le _, Nat.zero_le _⟩ dX9_next0_109 ?_
        refine g_i2l B dX9_next0_112 ?_
        refine g_lor B dX9_next0_113 ?_
        obtain ⟨x21, e22, h⟩ := lt_e h
        refine g_topl e22 ?_
        refine g_lstore_n (lv' := [(3, .long x21), (0, .ref (ad 30 0)), (2, .int v2)]) B dX9_next0_114 rfl (by decide) rfl ?_
        refine g_sub [1, 2, 0] rfl ?_
        exact b_X9_next0_115 B N _ ih _ _ _ h
def f_X9_next0_206 (cs : List (Nat × Nat)) (N : Nat) (K164 : Int32 → HS → Option (Unit × HS)) (v2 : Int32) (S : HS) : Option (Unit × HS) :=
  lt_ (v2 + (1 : Int32)) (fun x1 =>
  ck (mc cs 30 0) (
  lt_ (ui S 30 0 25 ((gi S 30 0 25) + (1 : Int32))) (fun S4 =>
  K164 x1 S4)))
set_option maxHeartbeats 4000000 in
set_option maxRecDepth 100000 in
theorem b_X9_next0_206 {p : Program} {l : Launch} {e : Env} {s : State} {m : MethodId} {args : Array Value} {below : List Frame} {meth : Method} {c : Code} {D : va_G} {cy : Nat → ClassId} {cs : List (Nat × Nat)} {ad : Nat → Nat → Nat} {Zp : State → Prop} {r : Unit} {Z : HS} (B : Bd p s m args meth c D cy cs ad Zp cX9_next0 5 RX9 none) (N : Nat) (K164 : Int32 → HS → Option (Unit × HS)) (hK164 : ∀ (v2 : Int32) (S : HS), K164 v2 S = some (r, Z) → GW p l e rm_X9_next0 s m args below meth c (QM below args s D cy cs ad (none) Z) D cy cs ad 0 0 5 164 [(0, .ref (ad 30 0)), (2, .int v2)] [] S) (v2 : Int32) (S : HS) (h : f_X9_next0_206 cs N K164 v2 S = some (r, Z)) : GW p l e rm_X9_next0 s m args below meth c (QM below args s D cy cs ad (none) Z) D cy cs ad 0 0 5 206 [(0, .ref (ad 30 0)), (2, .int v2)] [] S := by
  have hA := B.2.2.2.2.2.2.1
  have hZ := B.2.2.2.2.2.2.2.2.2.2
  unfold f_X9_next0_206 at h
  obtain ⟨x1, e2, h⟩ := lt_e h
  refine g_iinc (v := x1) (lv' := [(2, .int x1), (0, .ref (ad 30 0))]) B dX9_next0_206 (k := 1) rfl (by rw [e2]; rfl) (by decide) rfl ?_
  refine g_aload_n B dX9_next0_209 1 rfl rfl ?_
  refine g_dup B dX9_next0_210 rfl ?_
  obtain ⟨m3, h⟩ := ck_e h
  refine gt_X9_25 B m3 kf_X9_144 dX9_next0_211 ?_
  refine g_iconst (v := (1 : Int32)) B dX9_next0_214 (by decide) ?_
  refine g_iadd B dX9_next0_215 ?_
  obtain ⟨S4, e5, h⟩ := lt_e h
  refine pt_X9_25 B m3 kf_X9_144 e5 dX9_next0_216 ?_
  refine g_goto B 164 dX9_next0_219 (by decide) ?_
  refine g_sub [1, 0] rfl ?_
  exact hK164 _ _ h
def f_X9_next0_164 (cs : List (Nat × Nat)) (N : Nat)  : Nat → Int32 → HS → Option (Unit × HS)
  | 0, _, _ => none
  | n + 1, v2, S =>
    ck (mc cs 30 0) (
    ob (f_X9_see cs N (gi S 30 0 25) S) (fun r2 S3 =>
    ob (f_X9_isDigit cs N r2 S3) (fun r5 S6 =>
    if r5 = 0 then (
      if (3 : Int32) ≤ v2 then (
        lt_ (ui S6 30 0 26 (1 : Int32)) (fun S10 =>
        some ((), S10)))
      else (
        lt_ (ui S6 30 0 26 (2 : Int32)) (fun S12 =>
        some ((), S12))))
    else (
      if (2 : Int32) ≤ v2 then (
        f_X9_next0_206 cs N (f_X9_next0_164 cs N n) v2 S6)
      else (
        ob (f_X9_see cs N (gi S6 30 0 25) S6) (fun r15 S16 =>
        lt_ (ui S16 30 0 28 ((((10 : Int32) * (gi S6 30 0 28)) + r15) - (48 : Int32))) (fun S18 =>
        f_X9_next0_206 cs N (f_X9_next0_164 cs N n) v2 S18)))))))
set_option maxHeartbeats 4000000 in
set_option maxRecDepth 100000 in
theorem b_X9_next0_164 {p : Program} {l : Launch} {e : Env} {s : State} {m : MethodId} {args : Array Value} {below : List Frame} {meth : Method} {c : Code} {D : va_G} {cy : Nat → ClassId} {cs : List (Nat × Nat)} {ad : Nat → Nat → Nat} {Zp : State → Prop} {r : Unit} {Z : HS} (B : Bd p s m args meth c D cy cs ad Zp cX9_next0 5 RX9 none) (N : Nat)  : ∀ (n : Nat) (v2 : Int32) (S : HS), f_X9_next0_164 cs N n v2 S = some (r, Z) → GW p l e rm_X9_next0 s m args below meth c (QM below args s D cy cs ad (none) Z) D cy cs ad 0 0 5 164 [(0, .ref (ad 30 0)), (2, .int v2)] [] S := by
  have hA := B.2.2.2.2.2.2.1
  have hZ := B.2.2.2.2.2.2.2.2.2.2
  intro n
  induction n with
  | zero => intro v2 S h; cases h
  | succ n ih =>
    intro v2 S h
    rw [f_X9_next0_164] at h
    refine g_aload_n B dX9_next0_164 0 rfl rfl ?_
    refine g_aload_n B dX9_next0_165 0 rfl rfl ?_
    obtain ⟨m1, h⟩ := ck_e h
    refine gt_X9_25 B m1 kf_X9_144 dX9_next0_166 ?_
    obtain ⟨r2, S3, e4, h⟩ := ob_e h
    refine g_cvi (rest := []) B (c_X9_see hA hZ N _ _ _ _ e4) mf_X9_see km_X9_147 ⟨by decide, by decide⟩ ⟨rfl, rfl⟩ m1 rfl rfl rfl rfl (Nat.le_of_ble_eq_true rfl) ⟨Nat.zero_le _, Nat.zero_le _⟩ dX9_next0_169 ?_
    obtain ⟨r5, S6, e7, h⟩ := ob_e h
    refine g_csi (rest := []) B (c_X9_isDigit hA hZ N _ _ _ _ e7) mf_X9_isDigit km_X9_164 ⟨by decide, by decide⟩ ⟨rfl, rfl⟩ rfl rfl (Nat.le_of_ble_eq_true rfl) ⟨Nat.zero_le _, Nat.zero_le _⟩ dX9_next0_172 ?_
    refine g_if_eq B 222 dX9_next0_175 (by decide) (fun q8 => ?_) (fun q8 => ?_)
    · have h := if_t h q8
      refine g_aload_n B dX9_next0_222 0 rfl rfl ?_
      refine g_iload_n B dX9_next0_223 1 rfl rfl ?_
      refine g_iconst (v := (3 : Int32)) B dX9_next0_224 (by decide) ?_
      refine g_icmp_ge B 232 dX9_next0_225 (by decide) (fun q9 => ?_) (fun q9 => ?_)
      · have h := if_t h q9
        refine g_iconst (v := (1 : Int32)) B dX9_next0_232 (by decide) ?_
        obtain ⟨S10, e11, h⟩ := lt_e h
        refine pt_X9_26 B m1 kf_X9_154 e11 dX9_next0_233 ?_
        refine g_goto B 264 dX9_next0_236 (by decide) ?_
        obtain ⟨-, rfl⟩ := some_e h
        exact g_vret B dX9_next0_264
      · have h := if_f h q9
        refine g_iconst (v := (2 : Int32)) B dX9_next0_228 (by decide) ?_
        refine g_goto B 233 dX9_next0_229 (by decide) ?_
        obtain ⟨S12, e13, h⟩ := lt_e h
        refine pt_X9_26 B m1 kf_X9_154 e13 dX9_next0_233 ?_
        refine g_goto B 264 dX9_next0_236 (by decide) ?_
        obtain ⟨-, rfl⟩ := some_e h
        exact g_vret B dX9_next0_264
    · have h := if_f h q8
      refine g_iload_n B dX9_next0_178 1 rfl rfl ?_
      refine g_iconst (v := (2 : Int32)) B dX9_next0_179 (by decide) ?_
      refine g_icmp_ge B 206 dX9_next0_180 (by decide) (fun q14 => ?_) (fun q14 => ?_)
      · have h := if_t h q14
        exact b_X9_next0_206 B N _ ih _ _ h
      · have h := if_f h q14
        refine g_aload_n B dX9_next0_183 0 rfl rfl ?_
        refine g_bipush (v := (10 : Int32)) B dX9_next0_184 (by decide) ?_
        refine g_aload_n B dX9_next0_186 0 rfl rfl ?_
        refine gt_X9_28 B m1 kf_X9_167 dX9_next0_187 ?_
        refine g_imul B dX9_next0_190 ?_
        refine g_aload_n B dX9_next0_191 0 rfl rfl ?_
        refine g_aload_n B dX9_next0_192 0 rfl rfl ?_
        refine gt_X9_25 B m1 kf_X9_144 dX9_next0_193 ?_
        obtain ⟨r15, S16, e17, h⟩ := ob_e h
        refine g_cvi (rest := [.int ((10 : Int32) * (gi S6 30 0 28)), .ref (ad 30 0)]) B (c_X9_see hA hZ N _ _ _ _ e17) mf_X9_see km_X9_147 ⟨by decide, by decide⟩ ⟨rfl, rfl⟩ m1 rfl rfl rfl rfl (Nat.le_of_ble_eq_true rfl) ⟨Nat.zero_le _, Nat.zero_le _⟩ dX9_next0_196 ?_
        refine g_iadd B dX9_next0_199 ?_
        refine g_bipush (v := (48 : Int32)) B dX9_next0_200 (by decide) ?_
        refine g_isub B dX9_next0_202 ?_
        obtain ⟨S18, e19, h⟩ := lt_e h
        refine pt_X9_28 B m1 kf_X9_167 e19 dX9_next0_203 ?_
        exact b_X9_next0_206 B N _ ih _ _ h
def f_X9_next0_0 (cs : List (Nat × Nat)) (N : Nat)  : Nat → HS → Option (Unit × HS)
  | 0, _ => none
  | n + 1, S =>
    ck (mc cs 30 0) (
    ob (f_X9_see cs N (gi S 30 0 25) S) (fun r2 S3 =>
    if r2 = (32 : Int32) then (
      lt_ (ui S3 30 0 25 ((gi S3 30 0 25) + (1 : Int32))) (fun S6 =>
      f_X9_next0_0 cs N n  S6))
    else (
      ob (f_X9_see cs N (gi S3 30 0 25) S3) (fun r8 S9 =>
      if r8 = (10 : Int32) then (
        lt_ (ui S9 30 0 25 ((gi S9 30 0 25) + (1 : Int32))) (fun S37 =>
        f_X9_next0_0 cs N n  S37))
      else (
        lt_ (ui S9 30 0 27 (gi S9 30 0 25)) (fun S12 =>
        ob (f_X9_see cs N (gi S12 30 0 25) S12) (fun r14 S15 =>
        if r14 = (-1 : Int32) then (
          lt_ (ui S15 30 0 26 (0 : Int32)) (fun S35 =>
          some ((), S35)))
        else (
          ob (f_X9_isLetter cs N r14 S15) (fun r18 S19 =>
          if r18 = 0 then (
            ob (f_X9_isDigit cs N r14 S19) (fun r22 S23 =>
            if r22 = 0 then (
              lt_ (ui S23 30 0 25 ((gi S23 30 0 25) + (1 : Int32))) (fun S26 =>
              if r14 = (59 : Int32) then (
                lt_ (ui S26 30 0 26 r14) (fun S31 =>
                some ((), S31)))
              else (
                lt_ (ui S26 30 0 26 (1 : Int32)) (fun S29 =>
                some ((), S29)))))
            else (
              lt_ (ui S23 30 0 28 (0 : Int32)) (fun S33 =>
              f_X9_next0_164 cs N N (0 : Int32) S33))))
          else (
            f_X9_next0_80 cs N N (0 : Int32) (0 : Int64) S19))))))))))
set_option maxHeartbeats 4000000 in
set_option maxRecDepth 100000 in
theorem b_X9_next0_0 {p : Program} {l : Launch} {e : Env} {s : State} {m : MethodId} {args : Array Value} {below : List Frame} {meth : Method} {c : Code} {D : va_G} {cy : Nat → ClassId} {cs : List (Nat × Nat)} {ad : Nat → Nat → Nat} {Zp : State → Prop} {r : Unit} {Z : HS} (B : Bd p s m args meth c D cy cs ad Zp cX9_next0 5 RX9 none) (N : Nat)  : ∀ (n : Nat)  (S : HS), f_X9_next0_0 cs N n  S = some (r, Z) → GW p l e rm_X9_next0 s m args below meth c (QM below args s D cy cs ad (none) Z) D cy cs ad 0 0 5 0 [(0, .ref (ad 30 0))] [] S := by
  have hA := B.2.2.2.2.2.2.1
  have hZ := B.2.2.2.2.2.2.2.2.2.2
  intro n
  induction n with
  | zero => intro  S h; cases h
  | succ n ih =>
    intro  S h
    rw [f_X9_next0_0] at h
    refine g_aload_n B dX9_next0_0 0 rfl rfl ?_
    refine g_aload_n B dX9_next0_1 0 rfl rfl ?_
    obtain ⟨m1, h⟩ := ck_e h
    refine gt_X9_25 B m1 kf_X9_144 dX9_next0_2 ?_
    obtain ⟨r2, S3, e4, h⟩ := ob_e h
    refine g_cvi (rest := []) B (c_X9_see hA hZ N _ _ _ _ e4) mf_X9_see km_X9_147 ⟨by decide, by decide⟩ ⟨rfl, rfl⟩ m1 rfl rfl rfl rfl (Nat.le_of_ble_eq_true rfl) ⟨Nat.zero_le _, Nat.zero_le _⟩ dX9_next0_5 ?_
    refine g_bipush (v := (32 : Int32)) B dX9_next0_8 (by decide) ?_
    refine g_icmp_eq B 26 dX9_next0_10 (by decide) (fun q5 => ?_) (fun q5 => ?_)
    · have h := if_t h q5
      refine g_aload_n B dX9_next0_26 0 rfl rfl ?_
      refine g_dup B dX9_next0_27 rfl ?_
      refine gt_X9_25 B m1 kf_X9_144 dX9_next0_28 ?_
      refine g_iconst (v := (1 : Int32)) B dX9_next0_31 (by decide) ?_
      refine g_iadd B dX9_next0_32 ?_
      obtain ⟨S6, e7, h⟩ := lt_e h
      refine pt_X9_25 B m1 kf_X9_144 e7 dX9_next0_33 ?_
      refine g_goto B 0 dX9_next0_36 (by decide) ?_
      exact ih  _ h
    · have h := if_f h q5
      refine g_aload_n B dX9_next0_13 0 rfl rfl ?_
      refine g_aload_n B dX9_next0_14 0 rfl rfl ?_
      refine gt_X9_25 B m1 kf_X9_144 dX9_next0_15 ?_
      obtain ⟨r8, S9, e10, h⟩ := ob_e h
      refine g_cvi (rest := []) B (c_X9_see hA hZ N _ _ _ _ e10) mf_X9_see km_X9_147 ⟨by decide, by decide⟩ ⟨rfl, rfl⟩ m1 rfl rfl rfl rfl (Nat.le_of_ble_eq_true rfl) ⟨Nat.zero_le _, Nat.zero_le _⟩ dX9_next0_18 ?_
      refine g_bipush (v := (10 : Int32)) B dX9_next0_21 (by decide) ?_
      refine g_icmp_ne B 39 dX9_next0_23 (by decide) (fun q11 => ?_) (fun q11 => ?_)
      · have h := if_f h q11
        refine g_aload_n B dX9_next0_39 0 rfl rfl ?_
        refine g_aload_n B dX9_next0_40 0 rfl rfl ?_
        refine gt_X9_25 B m1 kf_X9_144 dX9_next0_41 ?_
        obtain ⟨S12, e13, h⟩ := lt_e h
        refine pt_X9_27 B m1 kf_X9_151 e13 dX9_next0_44 ?_
        refine g_aload_n B dX9_next0_47 0 rfl rfl ?_
        refine g_aload_n B dX9_next0_48 0 rfl rfl ?_
        refine gt_X9_25 B m1 kf_X9_144 dX9_next0_49 ?_
        obtain ⟨r14, S15, e16, h⟩ := ob_e h
        refine g_cvi (rest := []) B (c_X9_see hA hZ N _ _ _ _ e16) mf_X9_see km_X9_147 ⟨by decide, by decide⟩ ⟨rfl, rfl⟩ m1 rfl rfl rfl rfl (Nat.le_of_ble_eq_true rfl) ⟨Nat.zero_le _, Nat.zero_le _⟩ dX9_next0_52 ?_
        refine g_istore_n (lv' := [(1, .int r14), (0, .ref (ad 30 0))]) B dX9_next0_55 rfl (by decide) rfl ?_
        refine g_iconst (v := (0 : Int32)) B dX9_next0_56 (by decide) ?_
        refine g_istore_n (lv' := [(2, .int (0 : Int32)), (1, .int r14), (0, .ref (ad 30 0))]) B dX9_next0_57 rfl (by decide) rfl ?_
        refine g_iload_n B dX9_next0_58 1 rfl rfl ?_
        refine g_iconst (v := (-1 : Int32)) B dX9_next0_59 (by decide) ?_
        refine g_icmp_ne B 71 dX9_next0_60 (by decide) (fun q17 => ?_) (fun q17 => ?_)
        · have h := if_f h q17
          refine g_iload_n B dX9_next0_71 1 rfl rfl ?_
          obtain ⟨r18, S19, e20, h⟩ := ob_e h
          refine g_csi (rest := []) B (c_X9_isLetter hA hZ N _ _ _ _ e20) mf_X9_isLetter km_X9_157 ⟨by decide, by decide⟩ ⟨rfl, rfl⟩ rfl rfl (Nat.le_of_ble_eq_true rfl) ⟨Nat.zero_le _, Nat.zero_le _⟩ dX9_next0_72 ?_
          refine g_if_eq B 152 dX9_next0_75 (by decide) (fun q21 => ?_) (fun q21 => ?_)
          · have h := if_t h q21
            refine g_iload_n B dX9_next0_152 1 rfl rfl ?_
            obtain ⟨r22, S23, e24, h⟩ := ob_e h
            refine g_csi (rest := []) B (c_X9_isDigit hA hZ N _ _ _ _ e24) mf_X9_isDigit km_X9_164 ⟨by decide, by decide⟩ ⟨rfl, rfl⟩ rfl rfl (Nat.le_of_ble_eq_true rfl) ⟨Nat.zero_le _, Nat.zero_le _⟩ dX9_next0_153 ?_
            refine g_if_eq B 239 dX9_next0_156 (by decide) (fun q25 => ?_) (fun q25 => ?_)
            · have h := if_t h q25
              refine g_aload_n B dX9_next0_239 2 rfl rfl ?_
              refine g_dup B dX9_next0_240 rfl ?_
              refine gt_X9_25 B m1 kf_X9_144 dX9_next0_241 ?_
              refine g_iconst (v := (1 : Int32)) B dX9_next0_244 (by decide) ?_
              refine g_iadd B dX9_next0_245 ?_
              obtain ⟨S26, e27, h⟩ := lt_e h
              refine pt_X9_25 B m1 kf_X9_144 e27 dX9_next0_246 ?_
              refine g_aload_n B dX9_next0_249 2 rfl rfl ?_
              refine g_iload_n B dX9_next0_250 1 rfl rfl ?_
              refine g_bipush (v := (59 : Int32)) B dX9_next0_251 (by decide) ?_
              refine g_icmp_ne B 260 dX9_next0_253 (by decide) (fun q28 => ?_) (fun q28 => ?_)
              · have h := if_f h q28
                refine g_iconst (v := (1 : Int32)) B dX9_next0_260 (by decide) ?_
                obtain ⟨S29, e30, h⟩ := lt_e h
                refine pt_X9_26 B m1 kf_X9_154 e30 dX9_next0_261 ?_
                obtain ⟨-, rfl⟩ := some_e h
                exact g_vret B dX9_next0_264
              · have h := if_t h q28
                refine g_iload_n B dX9_next0_256 1 rfl rfl ?_
                refine g_goto B 261 dX9_next0_257 (by decide) ?_
                obtain ⟨S31, e32, h⟩ := lt_e h
                refine pt_X9_26 B m1 kf_X9_154 e32 dX9_next0_261 ?_
                obtain ⟨-, rfl⟩ := some_e h
                exact g_vret B dX9_next0_264
            · have h := if_f h q25
              refine g_aload_n B dX9_next0_159 2 rfl rfl ?_
              refine g_iconst (v := (0 : Int32)) B dX9_next0_160 (by decide) ?_
              obtain ⟨S33, e34, h⟩ := lt_e h
              refine pt_X9_28 B m1 kf_X9_167 e34 dX9_next0_161 ?_
              refine g_sub [2, 0] rfl ?_
              exact b_X9_next0_164 B N N _ _ h
          · have h := if_f h q21
            refine g_lconst (v := (0 : Int64)) B dX9_next0_78 rfl ?_
            refine g_lstore_n (lv' := [(3, .long (0 : Int64)), (2, .int (0 : Int32)), (1, .int r14), (0, .ref (ad 30 0))]) B dX9_next0_79 rfl (by decide) rfl ?_
            refine g_sub [3, 1, 0] rfl ?_
            exact b_X9_next0_80 B N N _ _ _ h
        · have h := if_t h q17
          refine g_aload_n B dX9_next0_63 2 rfl rfl ?_
          refine g_iconst (v := (0 : Int32)) B dX9_next0_64 (by decide) ?_
          obtain ⟨S35, e36, h⟩ := lt_e h
          refine pt_X9_26 B m1 kf_X9_154 e36 dX9_next0_65 ?_
          refine g_goto B 264 dX9_next0_68 (by decide) ?_
          obtain ⟨-, rfl⟩ := some_e h
          exact g_vret B dX9_next0_264
      · have h := if_t h q11
        refine g_aload_n B dX9_next0_26 0 rfl rfl ?_
        refine g_dup B dX9_next0_27 rfl ?_
        refine gt_X9_25 B m1 kf_X9_144 dX9_next0_28 ?_
        refine g_iconst (v := (1 : Int32)) B dX9_next0_31 (by decide) ?_
        refine g_iadd B dX9_next0_32 ?_
        obtain ⟨S37, e38, h⟩ := lt_e h
        refine pt_X9_25 B m1 kf_X9_144 e38 dX9_next0_33 ?_
        refine g_goto B 0 dX9_next0_36 (by decide) ?_
        exact ih  _ h
def f_X9_next0 (cs : List (Nat × Nat)) (N : Nat)  (S : HS) : Option (Unit × HS) :=
  f_X9_next0_0 cs N N  S
set_option maxHeartbeats 4000000 in
set_option maxRecDepth 100000 in
theorem c_X9_next0 {l : Launch} {D : va_G} {cy : Nat → ClassId} {cs : List (Nat × Nat)} {ad : Nat → Nat → Nat} {Zp : State → Prop} (hA : AdOk cs ad) (hZ : ZOk cs ad Zp) (N : Nat)  (S : HS) (r : Unit) (Z : HS) (h : f_X9_next0 cs N  S = some (r, Z)) : Ctr Zp l yX9_next0 cX9_next0 5 none rm_X9_next0 D cy cs ad [.ref (ad 30 0)] S (none) Z := by
  unfold f_X9_next0 at h
  refine Ctr.of hA hZ RX9 (plainFor_of_name (by decide)) rfl [(0, .ref (ad 30 0))] rfl (Nat.le_of_ble_eq_true rfl) (fun p e s m below meth c B => ?_)
  exact b_X9_next0_0 B N N  _ h

def rm_X9_bad : Room := { frames := 0, cells := 0, slots := 0, locals := 0 }
def f_X9_bad (cs : List (Nat × Nat)) (N : Nat) (a1 : Int32) (S : HS) : Option (Int32 × HS) :=
  ck (mc cs 30 0) (
  lt_ (ui S 30 0 29 a1) (fun S2 =>
  lt_ (ui S2 30 0 30 (gi S2 30 0 27)) (fun S4 =>
  some ((0 : Int32), S4))))
set_option maxHeartbeats 4000000 in
set_option maxRecDepth 100000 in
theorem c_X9_bad {l : Launch} {D : va_G} {cy : Nat → ClassId} {cs : List (Nat × Nat)} {ad : Nat → Nat → Nat} {Zp : State → Prop} (hA : AdOk cs ad) (hZ : ZOk cs ad Zp) (N : Nat) (a1 : Int32) (S : HS) (r : Int32) (Z : HS) (h : f_X9_bad cs N a1 S = some (r, Z)) : Ctr Zp l yX9_bad cX9_bad 2 (some .boolean) rm_X9_bad D cy cs ad [.ref (ad 30 0), .int a1] S (some (.int r)) Z := by
  unfold f_X9_bad at h
  refine Ctr.of hA hZ RX9 (plainFor_of_name (by decide)) rfl [(0, .ref (ad 30 0)), (1, .int a1)] rfl (Nat.le_of_ble_eq_true rfl) (fun p e s m below meth c B => ?_)
  refine g_aload_n B dX9_bad_0 0 rfl rfl ?_
  refine g_iload_n B dX9_bad_1 1 rfl rfl ?_
  obtain ⟨m1, h⟩ := ck_e h
  obtain ⟨S2, e3, h⟩ := lt_e h
  refine pt_X9_29 B m1 kf_X9_170 e3 dX9_bad_2 ?_
  refine g_aload_n B dX9_bad_5 0 rfl rfl ?_
  refine g_aload_n B dX9_bad_6 0 rfl rfl ?_
  refine gt_X9_27 B m1 kf_X9_151 dX9_bad_7 ?_
  obtain ⟨S4, e5, h⟩ := lt_e h
  refine pt_X9_30 B m1 kf_X9_173 e5 dX9_bad_10 ?_
  refine g_iconst (v := (0 : Int32)) B dX9_bad_13 (by decide) ?_
  obtain ⟨rfl, rfl⟩ := some_e h
  exact g_zret B (by decide) dX9_bad_14

def rm_X9_need : Room := { frames := 3, cells := 0, slots := 0, locals := 66 }
def f_X9_need (cs : List (Nat × Nat)) (N : Nat) (a1 : Int32) (S : HS) : Option (Int32 × HS) :=
  ck (mc cs 30 0) (
  if (gi S 30 0 26) = a1 then (
    ob (f_X9_next0 cs N  S) (fun r3 S4 =>
    some ((1 : Int32), S4)))
  else (
    ob (f_X9_bad cs N (1 : Int32) S) (fun r6 S7 =>
    ck (b01 r6) (
    some (r6, S7)))))
set_option maxHeartbeats 4000000 in
set_option maxRecDepth 100000 in
theorem c_X9_need {l : Launch} {D : va_G} {cy : Nat → ClassId} {cs : List (Nat × Nat)} {ad : Nat → Nat → Nat} {Zp : State → Prop} (hA : AdOk cs ad) (hZ : ZOk cs ad Zp) (N : Nat) (a1 : Int32) (S : HS) (r : Int32) (Z : HS) (h : f_X9_need cs N a1 S = some (r, Z)) : Ctr Zp l yX9_need cX9_need 2 (some .boolean) rm_X9_need D cy cs ad [.ref (ad 30 0), .int a1] S (some (.int r)) Z := by
  unfold f_X9_need at h
  refine Ctr.of hA hZ RX9 (plainFor_of_name (by decide)) rfl [(0, .ref (ad 30 0)), (1, .int a1)] rfl (Nat.le_of_ble_eq_true rfl) (fun p e s m below meth c B => ?_)
  refine g_aload_n B dX9_need_0 0 rfl rfl ?_
  obtain ⟨m1, h⟩ := ck_e h
  refine gt_X9_26 B m1 kf_X9_154 dX9_need_1 ?_
  refine g_iload_n B dX9_need_4 1 rfl rfl ?_
  refine g_icmp_eq B 14 dX9_need_5 (by decide) (fun q2 => ?_) (fun q2 => ?_)
  · have h := if_t h q2
    refine g_aload_n B dX9_need_14 0 rfl rfl ?_
    obtain ⟨r3, S4, e5, h⟩ := ob_e h
    refine g_cvv (rest := []) B (c_X9_next0 hA hZ N  _ _ _ e5) mf_X9_next0 km_X9_179 ⟨by decide, by decide⟩ ⟨rfl, rfl⟩ m1 rfl rfl rfl rfl (Nat.le_of_ble_eq_true rfl) ⟨Nat.zero_le _, Nat.zero_le _⟩ dX9_need_15 ?_
    refine g_iconst (v := (1 : Int32)) B dX9_need_18 (by decide) ?_
    obtain ⟨rfl, rfl⟩ := some_e h
    exact g_zret B (by decide) dX9_need_19
  · have h := if_f h q2
    refine g_aload_n B dX9_need_8 0 rfl rfl ?_
    refine g_iconst (v := (1 : Int32)) B dX9_need_9 (by decide) ?_
    obtain ⟨r6, S7, e8, h⟩ := ob_e h
    refine g_cvi (rest := []) B (c_X9_bad hA hZ N _ _ _ _ e8) mf_X9_bad km_X9_176 ⟨by decide, by decide⟩ ⟨rfl, rfl⟩ m1 rfl rfl rfl rfl (Nat.le_of_ble_eq_true rfl) ⟨Nat.zero_le _, Nat.zero_le _⟩ dX9_need_10 ?_
    obtain ⟨b9, h⟩ := ck_e h
    obtain ⟨rfl, rfl⟩ := some_e h
    exact g_zret B b9 dX9_need_13

def rm_X9_aNumber : Room := { frames := 3, cells := 0, slots := 0, locals := 66 }
def f_X9_aNumber (cs : List (Nat × Nat)) (N : Nat) (a1 : Int32) (a2 : Int32) (S : HS) : Option (Int32 × HS) :=
  ck (mc cs 30 0) (
  if (gi S 30 0 26) = (2 : Int32) then (
    ob (f_X9_isIn cs N (gi S 30 0 28) a1 a2 S) (fun r3 S4 =>
    if r3 = 0 then (
      ob (f_X9_bad cs N (2 : Int32) S4) (fun r12 S13 =>
      ck (b01 r12) (
      some (r12, S13))))
    else (
      lt_ (ui S4 30 0 33 (gi S4 30 0 28)) (fun S7 =>
      ob (f_X9_next0 cs N  S7) (fun r9 S10 =>
      some ((1 : Int32), S10))))))
  else (
    ob (f_X9_bad cs N (1 : Int32) S) (fun r16 S17 =>
    ck (b01 r16) (
    some (r16, S17)))))
set_option maxHeartbeats 4000000 in
set_option maxRecDepth 100000 in
theorem c_X9_aNumber {l : Launch} {D : va_G} {cy : Nat → ClassId} {cs : List (Nat × Nat)} {ad : Nat → Nat → Nat} {Zp : State → Prop} (hA : AdOk cs ad) (hZ : ZOk cs ad Zp) (N : Nat) (a1 : Int32) (a2 : Int32) (S : HS) (r : Int32) (Z : HS) (h : f_X9_aNumber cs N a1 a2 S = some (r, Z)) : Ctr Zp l yX9_aNumber cX9_aNumber 3 (some .boolean) rm_X9_aNumber D cy cs ad [.ref (ad 30 0), .int a1, .int a2] S (some (.int r)) Z := by
  unfold f_X9_aNumber at h
  refine Ctr.of hA hZ RX9 (plainFor_of_name (by decide)) rfl [(0, .ref (ad 30 0)), (1, .int a1), (2, .int a2)] rfl (Nat.le_of_ble_eq_true rfl) (fun p e s m below meth c B => ?_)
  refine g_aload_n B dX9_aNumber_0 0 rfl rfl ?_
  obtain ⟨m1, h⟩ := ck_e h
  refine gt_X9_26 B m1 kf_X9_154 dX9_aNumber_1 ?_
  refine g_iconst (v := (2 : Int32)) B dX9_aNumber_4 (by decide) ?_
  refine g_icmp_eq B 14 dX9_aNumber_5 (by decide) (fun q2 => ?_) (fun q2 => ?_)
  · have h := if_t h q2
    refine g_aload_n B dX9_aNumber_14 0 rfl rfl ?_
    refine gt_X9_28 B m1 kf_X9_167 dX9_aNumber_15 ?_
    refine g_iload_n B dX9_aNumber_18 1 rfl rfl ?_
    refine g_iload_n B dX9_aNumber_19 2 rfl rfl ?_
    obtain ⟨r3, S4, e5, h⟩ := ob_e h
    refine g_csi (rest := []) B (c_X9_isIn hA hZ N _ _ _ _ _ _ e5) mf_X9_isIn km_X9_96 ⟨by decide, by decide⟩ ⟨rfl, rfl⟩ rfl rfl (Nat.le_of_ble_eq_true rfl) ⟨Nat.zero_le _, Nat.zero_le _⟩ dX9_aNumber_20 ?_
    refine g_if_ne B 32 dX9_aNumber_23 (by decide) (fun q6 => ?_) (fun q6 => ?_)
    · have h := if_f h q6
      refine g_aload_n B dX9_aNumber_32 0 rfl rfl ?_
      refine g_aload_n B dX9_aNumber_33 0 rfl rfl ?_
      refine gt_X9_28 B m1 kf_X9_167 dX9_aNumber_34 ?_
      obtain ⟨S7, e8, h⟩ := lt_e h
      refine pt_X9_33 B m1 kf_X9_182 e8 dX9_aNumber_37 ?_
      refine g_aload_n B dX9_aNumber_40 0 rfl rfl ?_
      obtain ⟨r9, S10, e11, h⟩ := ob_e h
      refine g_cvv (rest := []) B (c_X9_next0 hA hZ N  _ _ _ e11) mf_X9_next0 km_X9_179 ⟨by decide, by decide⟩ ⟨rfl, rfl⟩ m1 rfl rfl rfl rfl (Nat.le_of_ble_eq_true rfl) ⟨Nat.zero_le _, Nat.zero_le _⟩ dX9_aNumber_41 ?_
      refine g_iconst (v := (1 : Int32)) B dX9_aNumber_44 (by decide) ?_
      obtain ⟨rfl, rfl⟩ := some_e h
      exact g_zret B (by decide) dX9_aNumber_45
    · have h := if_t h q6
      refine g_aload_n B dX9_aNumber_26 0 rfl rfl ?_
      refine g_iconst (v := (2 : Int32)) B dX9_aNumber_27 (by decide) ?_
      obtain ⟨r12, S13, e14, h⟩ := ob_e h
      refine g_cvi (rest := []) B (c_X9_bad hA hZ N _ _ _ _ e14) mf_X9_bad km_X9_176 ⟨by decide, by decide⟩ ⟨rfl, rfl⟩ m1 rfl rfl rfl rfl (Nat.le_of_ble_eq_true rfl) ⟨Nat.zero_le _, Nat.zero_le _⟩ dX9_aNumber_28 ?_
      obtain ⟨b15, h⟩ := ck_e h
      obtain ⟨rfl, rfl⟩ := some_e h
      exact g_zret B b15 dX9_aNumber_31
  · have h := if_f h q2
    refine g_aload_n B dX9_aNumber_8 0 rfl rfl ?_
    refine g_iconst (v := (1 : Int32)) B dX9_aNumber_9 (by decide) ?_
    obtain ⟨r16, S17, e18, h⟩ := ob_e h
    refine g_cvi (rest := []) B (c_X9_bad hA hZ N _ _ _ _ e18) mf_X9_bad km_X9_176 ⟨by decide, by decide⟩ ⟨rfl, rfl⟩ m1 rfl rfl rfl rfl (Nat.le_of_ble_eq_true rfl) ⟨Nat.zero_le _, Nat.zero_le _⟩ dX9_aNumber_10 ?_
    obtain ⟨b19, h⟩ := ck_e h
    obtain ⟨rfl, rfl⟩ := some_e h
    exact g_zret B b19 dX9_aNumber_13

def rm_X9_aLine : Room := { frames := 4, cells := 0, slots := 0, locals := 88 }
def f_X9_aLine_232 (cs : List (Nat × Nat)) (N : Nat)   (S : HS) : Option (Int32 × HS) :=
  ck (mc cs 30 0) (
  lt_ (ui S 30 0 32 ((gi S 30 0 32) + (1 : Int32))) (fun S2 =>
  ob (f_X9_need cs N (59 : Int32) S2) (fun r4 S5 =>
  ck (b01 r4) (
  some (r4, S5)))))
set_option maxHeartbeats 4000000 in
set_option maxRecDepth 100000 in
theorem b_X9_aLine_232 {p : Program} {l : Launch} {e : Env} {s : State} {m : MethodId} {args : Array Value} {below : List Frame} {meth : Method} {c : Code} {D : va_G} {cy : Nat → ClassId} {cs : List (Nat × Nat)} {ad : Nat → Nat → Nat} {Zp : State → Prop} {r : Int32} {Z : HS} (B : Bd p s m args meth c D cy cs ad Zp cX9_aLine 2 RX9 (some .boolean)) (N : Nat)   (S : HS) (h : f_X9_aLine_232 cs N  S = some (r, Z)) : GW p l e rm_X9_aLine s m args below meth c (QM below args s D cy cs ad (some (.int r)) Z) D cy cs ad 0 0 2 232 [(0, .ref (ad 30 0))] [] S := by
  have hA := B.2.2.2.2.2.2.1
  have hZ := B.2.2.2.2.2.2.2.2.2.2
  unfold f_X9_aLine_232 at h
  refine g_aload_n B dX9_aLine_232 0 rfl rfl ?_
  refine g_dup B dX9_aLine_233 rfl ?_
  obtain ⟨m1, h⟩ := ck_e h
  refine gt_X9_32 B m1 kf_X9_185 dX9_aLine_234 ?_
  refine g_iconst (v := (1 : Int32)) B dX9_aLine_237 (by decide) ?_
  refine g_iadd B dX9_aLine_238 ?_
  obtain ⟨S2, e3, h⟩ := lt_e h
  refine pt_X9_32 B m1 kf_X9_185 e3 dX9_aLine_239 ?_
  refine g_aload_n B dX9_aLine_242 0 rfl rfl ?_
  refine g_bipush (v := (59 : Int32)) B dX9_aLine_243 (by decide) ?_
  obtain ⟨r4, S5, e6, h⟩ := ob_e h
  refine g_cvi (rest := []) B (c_X9_need hA hZ N _ _ _ _ e6) mf_X9_need km_X9_191 ⟨by decide, by decide⟩ ⟨rfl, rfl⟩ m1 rfl rfl rfl rfl (Nat.le_of_ble_eq_true rfl) ⟨Nat.zero_le _, Nat.zero_le _⟩ dX9_aLine_245 ?_
  obtain ⟨b7, h⟩ := ck_e h
  obtain ⟨rfl, rfl⟩ := some_e h
  exact g_zret B b7 dX9_aLine_248
def f_X9_aLine_205 (cs : List (Nat × Nat)) (N : Nat)  (t0 : Int32) (S : HS) : Option (Int32 × HS) :=
  ck (mc cs 30 0) (
  ob (f_X9_aNumber cs N t0 (51 : Int32) S) (fun r2 S3 =>
  if r2 = 0 then (
    some ((0 : Int32), S3))
  else (
    ck (mc cs 31 19) (
    ck (inb (((4 : Int32) * (gi S3 30 0 32)) + (3 : Int32)) 96) (
    lt_ (ui S3 31 19 (((4 : Int32) * (gi S3 30 0 32)) + (3 : Int32)).toNatClampNeg (gi S3 30 0 33)) (fun S8 =>
    f_X9_aLine_232 cs N  S8))))))
set_option maxHeartbeats 4000000 in
set_option maxRecDepth 100000 in
theorem b_X9_aLine_205 {p : Program} {l : Launch} {e : Env} {s : State} {m : MethodId} {args : Array Value} {below : List Frame} {meth : Method} {c : Code} {D : va_G} {cy : Nat → ClassId} {cs : List (Nat × Nat)} {ad : Nat → Nat → Nat} {Zp : State → Prop} {r : Int32} {Z : HS} (B : Bd p s m args meth c D cy cs ad Zp cX9_aLine 2 RX9 (some .boolean)) (N : Nat)  (t0 : Int32) (S : HS) (h : f_X9_aLine_205 cs N t0 S = some (r, Z)) : GW p l e rm_X9_aLine s m args below meth c (QM below args s D cy cs ad (some (.int r)) Z) D cy cs ad 0 0 2 205 [(0, .ref (ad 30 0))] [.int t0, .ref (ad 30 0)] S := by
  have hA := B.2.2.2.2.2.2.1
  have hZ := B.2.2.2.2.2.2.2.2.2.2
  unfold f_X9_aLine_205 at h
  refine g_bipush (v := (51 : Int32)) B dX9_aLine_205 (by decide) ?_
  obtain ⟨m1, h⟩ := ck_e h
  obtain ⟨r2, S3, e4, h⟩ := ob_e h
  refine g_cvi (rest := []) B (c_X9_aNumber hA hZ N _ _ _ _ _ e4) mf_X9_aNumber km_X9_188 ⟨by decide, by decide⟩ ⟨rfl, rfl⟩ m1 rfl rfl rfl rfl (Nat.le_of_ble_eq_true rfl) ⟨Nat.zero_le _, Nat.zero_le _⟩ dX9_aLine_207 ?_
  refine g_if_ne B 215 dX9_aLine_210 (by decide) (fun q5 => ?_) (fun q5 => ?_)
  · have h := if_f h q5
    refine g_aload_n B dX9_aLine_215 0 rfl rfl ?_
    refine gt_X9_23 B m1 kf_X9_71 dX9_aLine_216 ?_
    refine g_iconst (v := (4 : Int32)) B dX9_aLine_219 (by decide) ?_
    refine g_aload_n B dX9_aLine_220 0 rfl rfl ?_
    refine gt_X9_32 B m1 kf_X9_185 dX9_aLine_221 ?_
    refine g_imul B dX9_aLine_224 ?_
    refine g_iconst (v := (3 : Int32)) B dX9_aLine_225 (by decide) ?_
    refine g_iadd B dX9_aLine_226 ?_
    refine g_aload_n B dX9_aLine_227 0 rfl rfl ?_
    refine gt_X9_33 B m1 kf_X9_182 dX9_aLine_228 ?_
    obtain ⟨m6, h⟩ := ck_e h
    obtain ⟨b7, h⟩ := ck_e h
    obtain ⟨S8, e9, h⟩ := lt_e h
    refine g_iast (n := 96) B m6 b7 (fun _ => rfl) e9 dX9_aLine_231 ?_
    exact b_X9_aLine_232 B N  _ h
  · have h := if_t h q5
    refine g_iconst (v := (0 : Int32)) B dX9_aLine_213 (by decide) ?_
    obtain ⟨rfl, rfl⟩ := some_e h
    exact g_zret B (by decide) dX9_aLine_214
def f_X9_aLine_176 (cs : List (Nat × Nat)) (N : Nat)  (v1 : Int32) (t0 : Int32) (S : HS) : Option (Int32 × HS) :=
  ck (mc cs 30 0) (
  ob (f_X9_need cs N t0 S) (fun r2 S3 =>
  if r2 = 0 then (
    some ((0 : Int32), S3))
  else (
    if v1 = (4 : Int32) then (
      f_X9_aLine_205 cs N (0 : Int32) S3)
    else (
      ck (mc cs 31 19) (
      ck (inb (((4 : Int32) * (gi S3 30 0 32)) + (2 : Int32)) 96) (
      f_X9_aLine_205 cs N (gi S3 31 19 (((4 : Int32) * (gi S3 30 0 32)) + (2 : Int32)).toNatClampNeg) S3))))))
set_option maxHeartbeats 4000000 in
set_option maxRecDepth 100000 in
theorem b_X9_aLine_176 {p : Program} {l : Launch} {e : Env} {s : State} {m : MethodId} {args : Array Value} {below : List Frame} {meth : Method} {c : Code} {D : va_G} {cy : Nat → ClassId} {cs : List (Nat × Nat)} {ad : Nat → Nat → Nat} {Zp : State → Prop} {r : Int32} {Z : HS} (B : Bd p s m args meth c D cy cs ad Zp cX9_aLine 2 RX9 (some .boolean)) (N : Nat)  (v1 : Int32) (t0 : Int32) (S : HS) (h : f_X9_aLine_176 cs N v1 t0 S = some (r, Z)) : GW p l e rm_X9_aLine s m args below meth c (QM below args s D cy cs ad (some (.int r)) Z) D cy cs ad 0 0 2 176 [(0, .ref (ad 30 0)), (1, .int v1)] [.int t0, .ref (ad 30 0)] S := by
  have hA := B.2.2.2.2.2.2.1
  have hZ := B.2.2.2.2.2.2.2.2.2.2
  unfold f_X9_aLine_176 at h
  obtain ⟨m1, h⟩ := ck_e h
  obtain ⟨r2, S3, e4, h⟩ := ob_e h
  refine g_cvi (rest := []) B (c_X9_need hA hZ N _ _ _ _ e4) mf_X9_need km_X9_191 ⟨by decide, by decide⟩ ⟨rfl, rfl⟩ m1 rfl rfl rfl rfl (Nat.le_of_ble_eq_true rfl) ⟨Nat.zero_le _, Nat.zero_le _⟩ dX9_aLine_176 ?_
  refine g_if_eq B 213 dX9_aLine_179 (by decide) (fun q5 => ?_) (fun q5 => ?_)
  · have h := if_t h q5
    refine g_iconst (v := (0 : Int32)) B dX9_aLine_213 (by decide) ?_
    obtain ⟨rfl, rfl⟩ := some_e h
    exact g_zret B (by decide) dX9_aLine_214
  · have h := if_f h q5
    refine g_aload_n B dX9_aLine_182 0 rfl rfl ?_
    refine g_iload_n B dX9_aLine_183 1 rfl rfl ?_
    refine g_iconst (v := (4 : Int32)) B dX9_aLine_184 (by decide) ?_
    refine g_icmp_ne B 192 dX9_aLine_185 (by decide) (fun q6 => ?_) (fun q6 => ?_)
    · have h := if_f h q6
      refine g_aload_n B dX9_aLine_192 0 rfl rfl ?_
      refine gt_X9_23 B m1 kf_X9_71 dX9_aLine_193 ?_
      refine g_iconst (v := (4 : Int32)) B dX9_aLine_196 (by decide) ?_
      refine g_aload_n B dX9_aLine_197 0 rfl rfl ?_
      refine gt_X9_32 B m1 kf_X9_185 dX9_aLine_198 ?_
      refine g_imul B dX9_aLine_201 ?_
      refine g_iconst (v := (2 : Int32)) B dX9_aLine_202 (by decide) ?_
      refine g_iadd B dX9_aLine_203 ?_
      obtain ⟨m7, h⟩ := ck_e h
      obtain ⟨b8, h⟩ := ck_e h
      refine g_iald (n := 96) B m7 (fun _ => rfl) b8 dX9_aLine_204 ?_
      refine g_sub [0] rfl ?_
      exact b_X9_aLine_205 B N _ _ h
    · have h := if_t h q6
      refine g_iconst (v := (0 : Int32)) B dX9_aLine_188 (by decide) ?_
      refine g_goto B 205 dX9_aLine_189 (by decide) ?_
      refine g_sub [0] rfl ?_
      exact b_X9_aLine_205 B N _ _ h
def f_X9_aLine_163 (cs : List (Nat × Nat)) (N : Nat)  (v1 : Int32) (S : HS) : Option (Int32 × HS) :=
  if v1 = (4 : Int32) then (
    f_X9_aLine_176 cs N v1 (9 : Int32) S)
  else (
    f_X9_aLine_176 cs N v1 (8 : Int32) S)
set_option maxHeartbeats 4000000 in
set_option maxRecDepth 100000 in
theorem b_X9_aLine_163 {p : Program} {l : Launch} {e : Env} {s : State} {m : MethodId} {args : Array Value} {below : List Frame} {meth : Method} {c : Code} {D : va_G} {cy : Nat → ClassId} {cs : List (Nat × Nat)} {ad : Nat → Nat → Nat} {Zp : State → Prop} {r : Int32} {Z : HS} (B : Bd p s m args meth c D cy cs ad Zp cX9_aLine 2 RX9 (some .boolean)) (N : Nat)  (v1 : Int32) (S : HS) (h : f_X9_aLine_163 cs N v1 S = some (r, Z)) : GW p l e rm_X9_aLine s m args below meth c (QM below args s D cy cs ad (some (.int r)) Z) D cy cs ad 0 0 2 163 [(0, .ref (ad 30 0)), (1, .int v1)] [] S := by
  have hA := B.2.2.2.2.2.2.1
  have hZ := B.2.2.2.2.2.2.2.2.2.2
  unfold f_X9_aLine_163 at h
  refine g_aload_n B dX9_aLine_163 0 rfl rfl ?_
  refine g_iload_n B dX9_aLine_164 1 rfl rfl ?_
  refine g_iconst (v := (4 : Int32)) B dX9_aLine_165 (by decide) ?_
  refine g_icmp_ne B 174 dX9_aLine_166 (by decide) (fun q1 => ?_) (fun q1 => ?_)
  · have h := if_f h q1
    refine g_bipush (v := (8 : Int32)) B dX9_aLine_174 (by decide) ?_
    exact b_X9_aLine_176 B N _ _ _ h
  · have h := if_t h q1
    refine g_bipush (v := (9 : Int32)) B dX9_aLine_169 (by decide) ?_
    refine g_goto B 176 dX9_aLine_171 (by decide) ?_
    exact b_X9_aLine_176 B N _ _ _ h
def f_X9_aLine_153 (cs : List (Nat × Nat)) (N : Nat)  (v1 : Int32) (S : HS) : Option (Int32 × HS) :=
  if v1 = (4 : Int32) then (
    f_X9_aLine_163 cs N v1 S)
  else (
    if v1 = (5 : Int32) then (
      f_X9_aLine_163 cs N v1 S)
    else (
      f_X9_aLine_232 cs N  S))
set_option maxHeartbeats 4000000 in
set_option maxRecDepth 100000 in
theorem b_X9_aLine_153 {p : Program} {l : Launch} {e : Env} {s : State} {m : MethodId} {args : Array Value} {below : List Frame} {meth : Method} {c : Code} {D : va_G} {cy : Nat → ClassId} {cs : List (Nat × Nat)} {ad : Nat → Nat → Nat} {Zp : State → Prop} {r : Int32} {Z : HS} (B : Bd p s m args meth c D cy cs ad Zp cX9_aLine 2 RX9 (some .boolean)) (N : Nat)  (v1 : Int32) (S : HS) (h : f_X9_aLine_153 cs N v1 S = some (r, Z)) : GW p l e rm_X9_aLine s m args below meth c (QM below args s D cy cs ad (some (.int r)) Z) D cy cs ad 0 0 2 153 [(0, .ref (ad 30 0)), (1, .int v1)] [] S := by
  have hA := B.2.2.2.2.2.2.1
  have hZ := B.2.2.2.2.2.2.2.2.2.2
  unfold f_X9_aLine_153 at h
  refine g_iload_n B dX9_aLine_153 1 rfl rfl ?_
  refine g_iconst (v := (4 : Int32)) B dX9_aLine_154 (by decide) ?_
  refine g_icmp_eq B 163 dX9_aLine_155 (by decide) (fun q1 => ?_) (fun q1 => ?_)
  · have h := if_t h q1
    exact b_X9_aLine_163 B N _ _ h
  · have h := if_f h q1
    refine g_iload_n B dX9_aLine_158 1 rfl rfl ?_
    refine g_iconst (v := (5 : Int32)) B dX9_aLine_159 (by decide) ?_
    refine g_icmp_ne B 232 dX9_aLine_160 (by decide) (fun q2 => ?_) (fun q2 => ?_)
    · have h := if_f h q2
      refine g_sub [0] rfl ?_
      exact b_X9_aLine_232 B N  _ h
    · have h := if_t h q2
      exact b_X9_aLine_163 B N _ _ h
def f_X9_aLine_128 (cs : List (Nat × Nat)) (N : Nat)  (v1 : Int32) (t0 : Int32) (t1 : Int32) (S : HS) : Option (Int32 × HS) :=
  ck (mc cs 30 0) (
  ob (f_X9_aNumber cs N t1 t0 S) (fun r2 S3 =>
  if r2 = 0 then (
    some ((0 : Int32), S3))
  else (
    ck (mc cs 31 19) (
    ck (inb (((4 : Int32) * (gi S3 30 0 32)) + (2 : Int32)) 96) (
    lt_ (ui S3 31 19 (((4 : Int32) * (gi S3 30 0 32)) + (2 : Int32)).toNatClampNeg (gi S3 30 0 33)) (fun S8 =>
    f_X9_aLine_153 cs N v1 S8))))))
set_option maxHeartbeats 4000000 in
set_option maxRecDepth 100000 in
theorem b_X9_aLine_128 {p : Program} {l : Launch} {e : Env} {s : State} {m : MethodId} {args : Array Value} {below : List Frame} {meth : Method} {c : Code} {D : va_G} {cy : Nat → ClassId} {cs : List (Nat × Nat)} {ad : Nat → Nat → Nat} {Zp : State → Prop} {r : Int32} {Z : HS} (B : Bd p s m args meth c D cy cs ad Zp cX9_aLine 2 RX9 (some .boolean)) (N : Nat)  (v1 : Int32) (t0 : Int32) (t1 : Int32) (S : HS) (h : f_X9_aLine_128 cs N v1 t0 t1 S = some (r, Z)) : GW p l e rm_X9_aLine s m args below meth c (QM below args s D cy cs ad (some (.int r)) Z) D cy cs ad 0 0 2 128 [(0, .ref (ad 30 0)), (1, .int v1)] [.int t0, .int t1, .ref (ad 30 0)] S := by
  have hA := B.2.2.2.2.2.2.1
  have hZ := B.2.2.2.2.2.2.2.2.2.2
  unfold f_X9_aLine_128 at h
  obtain ⟨m1, h⟩ := ck_e h
  obtain ⟨r2, S3, e4, h⟩ := ob_e h
  refine g_cvi (rest := []) B (c_X9_aNumber hA hZ N _ _ _ _ _ e4) mf_X9_aNumber km_X9_188 ⟨by decide, by decide⟩ ⟨rfl, rfl⟩ m1 rfl rfl rfl rfl (Nat.le_of_ble_eq_true rfl) ⟨Nat.zero_le _, Nat.zero_le _⟩ dX9_aLine_128 ?_
  refine g_if_ne B 136 dX9_aLine_131 (by decide) (fun q5 => ?_) (fun q5 => ?_)
  · have h := if_f h q5
    refine g_aload_n B dX9_aLine_136 0 rfl rfl ?_
    refine gt_X9_23 B m1 kf_X9_71 dX9_aLine_137 ?_
    refine g_iconst (v := (4 : Int32)) B dX9_aLine_140 (by decide) ?_
    refine g_aload_n B dX9_aLine_141 0 rfl rfl ?_
    refine gt_X9_32 B m1 kf_X9_185 dX9_aLine_142 ?_
    refine g_imul B dX9_aLine_145 ?_
    refine g_iconst (v := (2 : Int32)) B dX9_aLine_146 (by decide) ?_
    refine g_iadd B dX9_aLine_147 ?_
    refine g_aload_n B dX9_aLine_148 0 rfl rfl ?_
    refine gt_X9_33 B m1 kf_X9_182 dX9_aLine_149 ?_
    obtain ⟨m6, h⟩ := ck_e h
    obtain ⟨b7, h⟩ := ck_e h
    obtain ⟨S8, e9, h⟩ := lt_e h
    refine g_iast (n := 96) B m6 b7 (fun _ => rfl) e9 dX9_aLine_152 ?_
    exact b_X9_aLine_153 B N _ _ h
  · have h := if_t h q5
    refine g_iconst (v := (0 : Int32)) B dX9_aLine_134 (by decide) ?_
    obtain ⟨rfl, rfl⟩ := some_e h
    exact g_zret B (by decide) dX9_aLine_135
def f_X9_aLine_109 (cs : List (Nat × Nat)) (N : Nat)  (v1 : Int32) (t0 : Int32) (S : HS) : Option (Int32 × HS) :=
  ck (mc cs 30 0) (
  ob (f_X9_need cs N t0 S) (fun r2 S3 =>
  if r2 = 0 then (
    some ((0 : Int32), S3))
  else (
    if v1 = (5 : Int32) then (
      f_X9_aLine_128 cs N v1 (51 : Int32) (0 : Int32) S3)
    else (
      f_X9_aLine_128 cs N v1 (3 : Int32) (0 : Int32) S3))))
set_option maxHeartbeats 4000000 in
set_option maxRecDepth 100000 in
theorem b_X9_aLine_109 {p : Program} {l : Launch} {e : Env} {s : State} {m : MethodId} {args : Array Value} {below : List Frame} {meth : Method} {c : Code} {D : va_G} {cy : Nat → ClassId} {cs : List (Nat × Nat)} {ad : Nat → Nat → Nat} {Zp : State → Prop} {r : Int32} {Z : HS} (B : Bd p s m args meth c D cy cs ad Zp cX9_aLine 2 RX9 (some .boolean)) (N : Nat)  (v1 : Int32) (t0 : Int32) (S : HS) (h : f_X9_aLine_109 cs N v1 t0 S = some (r, Z)) : GW p l e rm_X9_aLine s m args below meth c (QM below args s D cy cs ad (some (.int r)) Z) D cy cs ad 0 0 2 109 [(0, .ref (ad 30 0)), (1, .int v1)] [.int t0, .ref (ad 30 0)] S := by
  have hA := B.2.2.2.2.2.2.1
  have hZ := B.2.2.2.2.2.2.2.2.2.2
  unfold f_X9_aLine_109 at h
  obtain ⟨m1, h⟩ := ck_e h
  obtain ⟨r2, S3, e4, h⟩ := ob_e h
  refine g_cvi (rest := []) B (c_X9_need hA hZ N _ _ _ _ e4) mf_X9_need km_X9_191 ⟨by decide, by decide⟩ ⟨rfl, rfl⟩ m1 rfl rfl rfl rfl (Nat.le_of_ble_eq_true rfl) ⟨Nat.zero_le _, Nat.zero_le _⟩ dX9_aLine_109 ?_
  refine g_if_eq B 134 dX9_aLine_112 (by decide) (fun q5 => ?_) (fun q5 => ?_)
  · have h := if_t h q5
    refine g_iconst (v := (0 : Int32)) B dX9_aLine_134 (by decide) ?_
    obtain ⟨rfl, rfl⟩ := some_e h
    exact g_zret B (by decide) dX9_aLine_135
  · have h := if_f h q5
    refine g_aload_n B dX9_aLine_115 0 rfl rfl ?_
    refine g_iconst (v := (0 : Int32)) B dX9_aLine_116 (by decide) ?_
    refine g_iload_n B dX9_aLine_117 1 rfl rfl ?_
    refine g_iconst (v := (5 : Int32)) B dX9_aLine_118 (by decide) ?_
    refine g_icmp_ne B 127 dX9_aLine_119 (by decide) (fun q6 => ?_) (fun q6 => ?_)
    · have h := if_f h q6
      refine g_iconst (v := (3 : Int32)) B dX9_aLine_127 (by decide) ?_
      exact b_X9_aLine_128 B N _ _ _ _ h
    · have h := if_t h q6
      refine g_bipush (v := (51 : Int32)) B dX9_aLine_122 (by decide) ?_
      refine g_goto B 128 dX9_aLine_124 (by decide) ?_
      exact b_X9_aLine_128 B N _ _ _ _ h
def f_X9_aLine (cs : List (Nat × Nat)) (N : Nat)  (S : HS) : Option (Int32 × HS) :=
  ck (mc cs 30 0) (
  lt_ ((gi S 30 0 26)) (fun x2 =>
  ob (f_X9_isIn cs N x2 (3 : Int32) (6 : Int32) S) (fun r4 S5 =>
  if r4 = 0 then (
    ob (f_X9_bad cs N (1 : Int32) S5) (fun r30 S31 =>
    ck (b01 r30) (
    some (r30, S31))))
  else (
    if (gi S5 30 0 32) = (24 : Int32) then (
      ob (f_X9_bad cs N (3 : Int32) S5) (fun r26 S27 =>
      ck (b01 r26) (
      some (r26, S27))))
    else (
      ob (f_X9_next0 cs N  S5) (fun r9 S10 =>
      ob (f_X9_aNumber cs N (0 : Int32) (5 : Int32) S10) (fun r12 S13 =>
      if r12 = 0 then (
        some ((0 : Int32), S13))
      else (
        ck (mc cs 31 19) (
        ck (inb ((4 : Int32) * (gi S13 30 0 32)) 96) (
        lt_ (ui S13 31 19 ((4 : Int32) * (gi S13 30 0 32)).toNatClampNeg x2) (fun S18 =>
        ck (inb (((4 : Int32) * (gi S18 30 0 32)) + (1 : Int32)) 96) (
        lt_ (ui S18 31 19 (((4 : Int32) * (gi S18 30 0 32)) + (1 : Int32)).toNatClampNeg (gi S18 30 0 33)) (fun S21 =>
        if x2 = (6 : Int32) then (
          f_X9_aLine_153 cs N x2 S21)
        else (
          if x2 = (3 : Int32) then (
            f_X9_aLine_109 cs N x2 (7 : Int32) S21)
          else (
            if x2 = (4 : Int32) then (
              f_X9_aLine_109 cs N x2 (8 : Int32) S21)
            else (
              f_X9_aLine_109 cs N x2 (10 : Int32) S21))))))))))))))))
set_option maxHeartbeats 4000000 in
set_option maxRecDepth 100000 in
theorem c_X9_aLine {l : Launch} {D : va_G} {cy : Nat → ClassId} {cs : List (Nat × Nat)} {ad : Nat → Nat → Nat} {Zp : State → Prop} (hA : AdOk cs ad) (hZ : ZOk cs ad Zp) (N : Nat)  (S : HS) (r : Int32) (Z : HS) (h : f_X9_aLine cs N  S = some (r, Z)) : Ctr Zp l yX9_aLine cX9_aLine 2 (some .boolean) rm_X9_aLine D cy cs ad [.ref (ad 30 0)] S (some (.int r)) Z := by
  unfold f_X9_aLine at h
  refine Ctr.of hA hZ RX9 (plainFor_of_name (by decide)) rfl [(0, .ref (ad 30 0))] rfl (Nat.le_of_ble_eq_true rfl) (fun p e s m below meth c B => ?_)
  refine g_aload_n B dX9_aLine_0 0 rfl rfl ?_
  obtain ⟨m1, h⟩ := ck_e h
  refine gt_X9_26 B m1 kf_X9_154 dX9_aLine_1 ?_
  obtain ⟨x2, e3, h⟩ := lt_e h
  refine g_topi e3 ?_
  refine g_istore_n (lv' := [(1, .int x2), (0, .ref (ad 30 0))]) B dX9_aLine_4 rfl (by decide) rfl ?_
  refine g_iload_n B dX9_aLine_5 0 rfl rfl ?_
  refine g_iconst (v := (3 : Int32)) B dX9_aLine_6 (by decide) ?_
  refine g_bipush (v := (6 : Int32)) B dX9_aLine_7 (by decide) ?_
  obtain ⟨r4, S5, e6, h⟩ := ob_e h
  refine g_csi (rest := []) B (c_X9_isIn hA hZ N _ _ _ _ _ _ e6) mf_X9_isIn km_X9_96 ⟨by decide, by decide⟩ ⟨rfl, rfl⟩ rfl rfl (Nat.le_of_ble_eq_true rfl) ⟨Nat.zero_le _, Nat.zero_le _⟩ dX9_aLine_9 ?_
  refine g_if_ne B 21 dX9_aLine_12 (by decide) (fun q7 => ?_) (fun q7 => ?_)
  · have h := if_f h q7
    refine g_aload_n B dX9_aLine_21 1 rfl rfl ?_
    refine gt_X9_32 B m1 kf_X9_185 dX9_aLine_22 ?_
    refine g_bipush (v := (24 : Int32)) B dX9_aLine_25 (by decide) ?_
    refine g_icmp_ne B 36 dX9_aLine_27 (by decide) (fun q8 => ?_) (fun q8 => ?_)
    · have h := if_f h q8
      refine g_aload_n B dX9_aLine_36 1 rfl rfl ?_
      obtain ⟨r9, S10, e11, h⟩ := ob_e h
      refine g_cvv (rest := []) B (c_X9_next0 hA hZ N  _ _ _ e11) mf_X9_next0 km_X9_179 ⟨by decide, by decide⟩ ⟨rfl, rfl⟩ m1 rfl rfl rfl rfl (Nat.le_of_ble_eq_true rfl) ⟨Nat.zero_le _, Nat.zero_le _⟩ dX9_aLine_37 ?_
      refine g_aload_n B dX9_aLine_40 1 rfl rfl ?_
      refine g_iconst (v := (0 : Int32)) B dX9_aLine_41 (by decide) ?_
      refine g_iconst (v := (5 : Int32)) B dX9_aLine_42 (by decide) ?_
      obtain ⟨r12, S13, e14, h⟩ := ob_e h
      refine g_cvi (rest := []) B (c_X9_aNumber hA hZ N _ _ _ _ _ e14) mf_X9_aNumber km_X9_188 ⟨by decide, by decide⟩ ⟨rfl, rfl⟩ m1 rfl rfl rfl rfl (Nat.le_of_ble_eq_true rfl) ⟨Nat.zero_le _, Nat.zero_le _⟩ dX9_aLine_43 ?_
      refine g_if_ne B 51 dX9_aLine_46 (by decide) (fun q15 => ?_) (fun q15 => ?_)
      · have h := if_f h q15
        refine g_aload_n B dX9_aLine_51 1 rfl rfl ?_
        refine gt_X9_23 B m1 kf_X9_71 dX9_aLine_52 ?_
        refine g_iconst (v := (4 : Int32)) B dX9_aLine_55 (by decide) ?_
        refine g_aload_n B dX9_aLine_56 1 rfl rfl ?_
        refine gt_X9_32 B m1 kf_X9_185 dX9_aLine_57 ?_
        refine g_imul B dX9_aLine_60 ?_
        refine g_iload_n B dX9_aLine_61 0 rfl rfl ?_
        obtain ⟨m16, h⟩ := ck_e h
        obtain ⟨b17, h⟩ := ck_e h
        obtain ⟨S18, e19, h⟩ := lt_e h
        refine g_iast (n := 96) B m16 b17 (fun _ => rfl) e19 dX9_aLine_62 ?_
        refine g_aload_n B dX9_aLine_63 1 rfl rfl ?_
        refine gt_X9_23 B m1 kf_X9_71 dX9_aLine_64 ?_
        refine g_iconst (v := (4 : Int32)) B dX9_aLine_67 (by decide) ?_
        refine g_aload_n B dX9_aLine_68 1 rfl rfl ?_
        refine gt_X9_32 B m1 kf_X9_185 dX9_aLine_69 ?_
        refine g_imul B dX9_aLine_72 ?_
        refine g_iconst (v := (1 : Int32)) B dX9_aLine_73 (by decide) ?_
        refine g_iadd B dX9_aLine_74 ?_
        refine g_aload_n B dX9_aLine_75 1 rfl rfl ?_
        refine gt_X9_33 B m1 kf_X9_182 dX9_aLine_76 ?_
        obtain ⟨b20, h⟩ := ck_e h
        obtain ⟨S21, e22, h⟩ := lt_e h
        refine g_iast (n := 96) B m16 b20 (fun _ => rfl) e22 dX9_aLine_79 ?_
        refine g_iload_n B dX9_aLine_80 0 rfl rfl ?_
        refine g_bipush (v := (6 : Int32)) B dX9_aLine_81 (by decide) ?_
        refine g_icmp_eq B 153 dX9_aLine_83 (by decide) (fun q23 => ?_) (fun q23 => ?_)
        · have h := if_t h q23
          refine g_sub [1, 0] rfl ?_
          exact b_X9_aLine_153 B N _ _ h
        · have h := if_f h q23
          refine g_aload_n B dX9_aLine_86 1 rfl rfl ?_
          refine g_iload_n B dX9_aLine_87 0 rfl rfl ?_
          refine g_iconst (v := (3 : Int32)) B dX9_aLine_88 (by decide) ?_
          refine g_icmp_ne B 97 dX9_aLine_89 (by decide) (fun q24 => ?_) (fun q24 => ?_)
          · have h := if_f h q24
            refine g_iload_n B dX9_aLine_97 0 rfl rfl ?_
            refine g_iconst (v := (4 : Int32)) B dX9_aLine_98 (by decide) ?_
            refine g_icmp_ne B 107 dX9_aLine_99 (by decide) (fun q25 => ?_) (fun q25 => ?_)
            · have h := if_f h q25
              refine g_bipush (v := (10 : Int32)) B dX9_aLine_107 (by decide) ?_
              refine g_sub [1, 0] rfl ?_
              exact b_X9_aLine_109 B N _ _ _ h
            · have h := if_t h q25
              refine g_bipush (v := (8 : Int32)) B dX9_aLine_102 (by decide) ?_
              refine g_goto B 109 dX9_aLine_104 (by decide) ?_
              refine g_sub [1, 0] rfl ?_
              exact b_X9_aLine_109 B N _ _ _ h
          · have h := if_t h q24
            refine g_bipush (v := (7 : Int32)) B dX9_aLine_92 (by decide) ?_
            refine g_goto B 109 dX9_aLine_94 (by decide) ?_
            refine g_sub [1, 0] rfl ?_
            exact b_X9_aLine_109 B N _ _ _ h
      · have h := if_t h q15
        refine g_iconst (v := (0 : Int32)) B dX9_aLine_49 (by decide) ?_
        obtain ⟨rfl, rfl⟩ := some_e h
        exact g_zret B (by decide) dX9_aLine_50
    · have h := if_t h q8
      refine g_aload_n B dX9_aLine_30 1 rfl rfl ?_
      refine g_iconst (v := (3 : Int32)) B dX9_aLine_31 (by decide) ?_
      obtain ⟨r26, S27, e28, h⟩ := ob_e h
      refine g_cvi (rest := []) B (c_X9_bad hA hZ N _ _ _ _ e28) mf_X9_bad km_X9_176 ⟨by decide, by decide⟩ ⟨rfl, rfl⟩ m1 rfl rfl rfl rfl (Nat.le_of_ble_eq_true rfl) ⟨Nat.zero_le _, Nat.zero_le _⟩ dX9_aLine_32 ?_
      obtain ⟨b29, h⟩ := ck_e h
      obtain ⟨rfl, rfl⟩ := some_e h
      exact g_zret B b29 dX9_aLine_35
  · have h := if_t h q7
    refine g_aload_n B dX9_aLine_15 1 rfl rfl ?_
    refine g_iconst (v := (1 : Int32)) B dX9_aLine_16 (by decide) ?_
    obtain ⟨r30, S31, e32, h⟩ := ob_e h
    refine g_cvi (rest := []) B (c_X9_bad hA hZ N _ _ _ _ e32) mf_X9_bad km_X9_176 ⟨by decide, by decide⟩ ⟨rfl, rfl⟩ m1 rfl rfl rfl rfl (Nat.le_of_ble_eq_true rfl) ⟨Nat.zero_le _, Nat.zero_le _⟩ dX9_aLine_17 ?_
    obtain ⟨b33, h⟩ := ck_e h
    obtain ⟨rfl, rfl⟩ := some_e h
    exact g_zret B b33 dX9_aLine_20

def rm_X9_tells : Room := { frames := 0, cells := 0, slots := 0, locals := 0 }
def f_X9_tells_78 (cs : List (Nat × Nat)) (N : Nat)  : Nat → Int32 → Int32 → HS → Option (Unit × HS)
  | 0, _, _, _ => none
  | n + 1, v2, v5, S =>
    if (4 : Int32) ≤ v5 then (
      some ((), S))
    else (
      ck (mc cs 30 0) (
      ck (mc cs 31 17) (
      ck (inb (((4 : Int32) * v2) + v5) 24) (
      lt_ (ui S 31 17 (((4 : Int32) * v2) + v5).toNatClampNeg (-1 : Int32)) (fun S5 =>
      lt_ (v5 + (1 : Int32)) (fun x7 =>
      f_X9_tells_78 cs N n v2 x7 S5))))))
set_option maxHeartbeats 4000000 in
set_option maxRecDepth 100000 in
theorem b_X9_tells_78 {p : Program} {l : Launch} {e : Env} {s : State} {m : MethodId} {args : Array Value} {below : List Frame} {meth : Method} {c : Code} {D : va_G} {cy : Nat → ClassId} {cs : List (Nat × Nat)} {ad : Nat → Nat → Nat} {Zp : State → Prop} {r : Unit} {Z : HS} (B : Bd p s m args meth c D cy cs ad Zp cX9_tells 6 RX9 none) (N : Nat)  : ∀ (n : Nat) (v2 : Int32) (v5 : Int32) (S : HS), f_X9_tells_78 cs N n v2 v5 S = some (r, Z) → GW p l e rm_X9_tells s m args below meth c (QM below args s D cy cs ad (none) Z) D cy cs ad 0 0 6 78 [(0, .ref (ad 30 0)), (2, .int v2), (5, .int v5)] [] S := by
  have hA := B.2.2.2.2.2.2.1
  have hZ := B.2.2.2.2.2.2.2.2.2.2
  intro n
  induction n with
  | zero => intro v2 v5 S h; cases h
  | succ n ih =>
    intro v2 v5 S h
    rw [f_X9_tells_78] at h
    refine g_iload B dX9_tells_78 2 rfl ?_
    refine g_iconst (v := (4 : Int32)) B dX9_tells_80 (by decide) ?_
    refine g_icmp_ge B 102 dX9_tells_81 (by decide) (fun q1 => ?_) (fun q1 => ?_)
    · have h := if_t h q1
      refine g_goto B 187 dX9_tells_102 (by decide) ?_
      obtain ⟨-, rfl⟩ := some_e h
      exact g_vret B dX9_tells_187
    · have h := if_f h q1
      refine g_aload_n B dX9_tells_84 0 rfl rfl ?_
      obtain ⟨m2, h⟩ := ck_e h
      refine gt_X9_20 B m2 kf_X9_61 dX9_tells_85 ?_
      refine g_iconst (v := (4 : Int32)) B dX9_tells_88 (by decide) ?_
      refine g_iload_n B dX9_tells_89 1 rfl rfl ?_
      refine g_imul B dX9_tells_90 ?_
      refine g_iload B dX9_tells_91 2 rfl ?_
      refine g_iadd B dX9_tells_93 ?_
      refine g_iconst (v := (-1 : Int32)) B dX9_tells_94 (by decide) ?_
      obtain ⟨m3, h⟩ := ck_e h
      obtain ⟨b4, h⟩ := ck_e h
      obtain ⟨S5, e6, h⟩ := lt_e h
      refine g_iast (n := 24) B m3 b4 (fun _ => rfl) e6 dX9_tells_95 ?_
      obtain ⟨x7, e8, h⟩ := lt_e h
      refine g_iinc (v := x7) (lv' := [(5, .int x7), (0, .ref (ad 30 0)), (2, .int v2)]) B dX9_tells_96 (k := 2) rfl (by rw [e8]; rfl) (by decide) rfl ?_
      refine g_goto B 78 dX9_tells_99 (by decide) ?_
      refine g_sub [1, 2, 0] rfl ?_
      exact ih _ _ _ h
def f_X9_tells_151 (cs : List (Nat × Nat)) (N : Nat)  : Nat → Int32 → Int32 → Int32 → HS → Option (Unit × HS)
  | 0, _, _, _, _ => none
  | n + 1, v2, v4, v5, S =>
    if v4 < v5 then (
      some ((), S))
    else (
      ck (mc cs 30 0) (
      ck (mc cs 32 0) (
      ck (inb (((52 : Int32) * v2) + v5) 312) (
      lt_ (ui S 32 0 (((52 : Int32) * v2) + v5).toNatClampNeg (vp_nar .boolean (1 : Int32))) (fun S5 =>
      lt_ (v5 + (1 : Int32)) (fun x7 =>
      f_X9_tells_151 cs N n v2 v4 x7 S5))))))
set_option maxHeartbeats 4000000 in
set_option maxRecDepth 100000 in
theorem b_X9_tells_151 {p : Program} {l : Launch} {e : Env} {s : State} {m : MethodId} {args : Array Value} {below : List Frame} {meth : Method} {c : Code} {D : va_G} {cy : Nat → ClassId} {cs : List (Nat × Nat)} {ad : Nat → Nat → Nat} {Zp : State → Prop} {r : Unit} {Z : HS} (B : Bd p s m args meth c D cy cs ad Zp cX9_tells 6 RX9 none) (N : Nat)  : ∀ (n : Nat) (v2 : Int32) (v4 : Int32) (v5 : Int32) (S : HS), f_X9_tells_151 cs N n v2 v4 v5 S = some (r, Z) → GW p l e rm_X9_tells s m args below meth c (QM below args s D cy cs ad (none) Z) D cy cs ad 0 0 6 151 [(0, .ref (ad 30 0)), (2, .int v2), (4, .int v4), (5, .int v5)] [] S := by
  have hA := B.2.2.2.2.2.2.1
  have hZ := B.2.2.2.2.2.2.2.2.2.2
  intro n
  induction n with
  | zero => intro v2 v4 v5 S h; cases h
  | succ n ih =>
    intro v2 v4 v5 S h
    rw [f_X9_tells_151] at h
    refine g_iload B dX9_tells_151 3 rfl ?_
    refine g_iload B dX9_tells_153 2 rfl ?_
    refine g_icmp_gt B 177 dX9_tells_155 (by decide) (fun q1 => ?_) (fun q1 => ?_)
    · have h := if_t h q1
      refine g_goto B 187 dX9_tells_177 (by decide) ?_
      obtain ⟨-, rfl⟩ := some_e h
      exact g_vret B dX9_tells_187
    · have h := if_f h q1
      refine g_aload_n B dX9_tells_158 0 rfl rfl ?_
      obtain ⟨m2, h⟩ := ck_e h
      refine gt_X9_21 B m2 kf_X9_64 dX9_tells_159 ?_
      refine g_bipush (v := (52 : Int32)) B dX9_tells_162 (by decide) ?_
      refine g_iload_n B dX9_tells_164 1 rfl rfl ?_
      refine g_imul B dX9_tells_165 ?_
      refine g_iload B dX9_tells_166 3 rfl ?_
      refine g_iadd B dX9_tells_168 ?_
      refine g_iconst (v := (1 : Int32)) B dX9_tells_169 (by decide) ?_
      obtain ⟨m3, h⟩ := ck_e h
      obtain ⟨b4, h⟩ := ck_e h
      obtain ⟨S5, e6, h⟩ := lt_e h
      refine g_zast (n := 312) B m3 b4 (fun _ => rfl) e6 dX9_tells_170 ?_
      obtain ⟨x7, e8, h⟩ := lt_e h
      refine g_iinc (v := x7) (lv' := [(5, .int x7), (0, .ref (ad 30 0)), (2, .int v2), (4, .int v4)]) B dX9_tells_171 (k := 3) rfl (by rw [e8]; rfl) (by decide) rfl ?_
      refine g_goto B 151 dX9_tells_174 (by decide) ?_
      refine g_sub [1, 2, 3, 0] rfl ?_
      exact ih _ _ _ _ h
def f_X9_tells (cs : List (Nat × Nat)) (N : Nat) (a1 : Int32) (S : HS) : Option (Unit × HS) :=
  ck (mc cs 30 0) (
  ck (mc cs 31 19) (
  ck (inb (((4 : Int32) * a1) + (1 : Int32)) 96) (
  lt_ ((gi S 31 19 (((4 : Int32) * a1) + (1 : Int32)).toNatClampNeg)) (fun x4 =>
  ck (inb (((4 : Int32) * a1) + (2 : Int32)) 96) (
  lt_ ((gi S 31 19 (((4 : Int32) * a1) + (2 : Int32)).toNatClampNeg)) (fun x7 =>
  ck (inb (((4 : Int32) * a1) + (3 : Int32)) 96) (
  lt_ ((gi S 31 19 (((4 : Int32) * a1) + (3 : Int32)).toNatClampNeg)) (fun x10 =>
  ck (inb ((4 : Int32) * a1) 96) (
  if (gi S 31 19 ((4 : Int32) * a1).toNatClampNeg) = (3 : Int32) then (
    ck (mc cs 31 16) (
    ck (inb x4 6) (
    lt_ (ui S 31 16 x4.toNatClampNeg x7) (fun S16 =>
    f_X9_tells_78 cs N N x4 (0 : Int32) S16))))
  else (
  if (gi S 31 19 ((4 : Int32) * a1).toNatClampNeg) = (4 : Int32) then (
    ck (mc cs 31 17) (
    ck (inb (((4 : Int32) * x4) + x7) 24) (
    if (gi S 31 17 (((4 : Int32) * x4) + x7).toNatClampNeg) ≤ x10 then (
      ck (inb (((4 : Int32) * x4) + x7) 24) (
      lt_ (ui S 31 17 (((4 : Int32) * x4) + x7).toNatClampNeg x10) (fun S23 =>
      some ((), S23))))
    else (
      ck (inb (((4 : Int32) * x4) + x7) 24) (
      ck (inb (((4 : Int32) * x4) + x7) 24) (
      lt_ (ui S 31 17 (((4 : Int32) * x4) + x7).toNatClampNeg (gi S 31 17 (((4 : Int32) * x4) + x7).toNatClampNeg)) (fun S27 =>
      some ((), S27))))))))
  else (
  if (gi S 31 19 ((4 : Int32) * a1).toNatClampNeg) = (5 : Int32) then (
    f_X9_tells_151 cs N N x4 x10 x7 S)
  else (
  ck (mc cs 31 16) (
  ck (inb x4 6) (
  lt_ (ui S 31 16 x4.toNatClampNeg (-1 : Int32)) (fun S32 =>
  some ((), S32))))))))))))))))
set_option maxHeartbeats 4000000 in
set_option maxRecDepth 100000 in
theorem c_X9_tells {l : Launch} {D : va_G} {cy : Nat → ClassId} {cs : List (Nat × Nat)} {ad : Nat → Nat → Nat} {Zp : State → Prop} (hA : AdOk cs ad) (hZ : ZOk cs ad Zp) (N : Nat) (a1 : Int32) (S : HS) (r : Unit) (Z : HS) (h : f_X9_tells cs N a1 S = some (r, Z)) : Ctr Zp l yX9_tells cX9_tells 6 none rm_X9_tells D cy cs ad [.ref (ad 30 0), .int a1] S (none) Z := by
  unfold f_X9_tells at h
  refine Ctr.of hA hZ RX9 (plainFor_of_name (by decide)) rfl [(0, .ref (ad 30 0)), (1, .int a1)] rfl (Nat.le_of_ble_eq_true rfl) (fun p e s m below meth c B => ?_)
  refine g_aload_n B dX9_tells_0 0 rfl rfl ?_
  obtain ⟨m1, h⟩ := ck_e h
  refine gt_X9_23 B m1 kf_X9_71 dX9_tells_1 ?_
  refine g_iconst (v := (4 : Int32)) B dX9_tells_4 (by decide) ?_
  refine g_iload_n B dX9_tells_5 1 rfl rfl ?_
  refine g_imul B dX9_tells_6 ?_
  refine g_iconst (v := (1 : Int32)) B dX9_tells_7 (by decide) ?_
  refine g_iadd B dX9_tells_8 ?_
  obtain ⟨m2, h⟩ := ck_e h
  obtain ⟨b3, h⟩ := ck_e h
  refine g_iald (n := 96) B m2 (fun _ => rfl) b3 dX9_tells_9 ?_
  obtain ⟨x4, e5, h⟩ := lt_e h
  refine g_topi e5 ?_
  refine g_istore_n (lv' := [(2, .int x4), (0, .ref (ad 30 0)), (1, .int a1)]) B dX9_tells_10 rfl (by decide) rfl ?_
  refine g_aload_n B dX9_tells_11 1 rfl rfl ?_
  refine gt_X9_23 B m1 kf_X9_71 dX9_tells_12 ?_
  refine g_iconst (v := (4 : Int32)) B dX9_tells_15 (by decide) ?_
  refine g_iload_n B dX9_tells_16 2 rfl rfl ?_
  refine g_imul B dX9_tells_17 ?_
  refine g_iconst (v := (2 : Int32)) B dX9_tells_18 (by decide) ?_
  refine g_iadd B dX9_tells_19 ?_
  obtain ⟨b6, h⟩ := ck_e h
  refine g_iald (n := 96) B m2 (fun _ => rfl) b6 dX9_tells_20 ?_
  obtain ⟨x7, e8, h⟩ := lt_e h
  refine g_topi e8 ?_
  refine g_istore_n (lv' := [(3, .int x7), (2, .int x4), (0, .ref (ad 30 0)), (1, .int a1)]) B dX9_tells_21 rfl (by decide) rfl ?_
  refine g_aload_n B dX9_tells_22 2 rfl rfl ?_
  refine gt_X9_23 B m1 kf_X9_71 dX9_tells_23 ?_
  refine g_iconst (v := (4 : Int32)) B dX9_tells_26 (by decide) ?_
  refine g_iload_n B dX9_tells_27 3 rfl rfl ?_
  refine g_imul B dX9_tells_28 ?_
  refine g_iconst (v := (3 : Int32)) B dX9_tells_29 (by decide) ?_
  refine g_iadd B dX9_tells_30 ?_
  obtain ⟨b9, h⟩ := ck_e h
  refine g_iald (n := 96) B m2 (fun _ => rfl) b9 dX9_tells_31 ?_
  obtain ⟨x10, e11, h⟩ := lt_e h
  refine g_topi e11 ?_
  refine g_istore (lv' := [(4, .int x10), (3, .int x7), (2, .int x4), (0, .ref (ad 30 0)), (1, .int a1)]) B dX9_tells_32 (by decide) rfl ?_
  refine g_aload_n B dX9_tells_34 3 rfl rfl ?_
  refine gt_X9_23 B m1 kf_X9_71 dX9_tells_35 ?_
  refine g_iconst (v := (4 : Int32)) B dX9_tells_38 (by decide) ?_
  refine g_iload_n B dX9_tells_39 4 rfl rfl ?_
  refine g_imul B dX9_tells_40 ?_
  obtain ⟨b12, h⟩ := ck_e h
  refine g_iald (n := 96) B m2 (fun _ => rfl) b12 dX9_tells_41 ?_
  by_cases q13 : (gi S 31 19 ((4 : Int32) * a1).toNatClampNeg) = (3 : Int32)
  · have h := if_t h q13
    refine g_tableIn (off := 26) B 68 dX9_tells_42 (by rw [q13]; decide) (by rw [q13]; decide) (by rw [q13]; rfl) (by decide) ?_
    refine g_aload_n B dX9_tells_68 3 rfl rfl ?_
    refine gt_X9_19 B m1 kf_X9_58 dX9_tells_69 ?_
    refine g_iload_n B dX9_tells_72 2 rfl rfl ?_
    refine g_iload_n B dX9_tells_73 1 rfl rfl ?_
    obtain ⟨m14, h⟩ := ck_e h
    obtain ⟨b15, h⟩ := ck_e h
    obtain ⟨S16, e17, h⟩ := lt_e h
    refine g_iast (n := 6) B m14 b15 (fun _ => rfl) e17 dX9_tells_74 ?_
    refine g_iconst (v := (0 : Int32)) B dX9_tells_75 (by decide) ?_
    refine g_istore (lv' := [(5, .int (0 : Int32)), (4, .int x10), (3, .int x7), (2, .int x4), (0, .ref (ad 30 0)), (1, .int a1)]) B dX9_tells_76 (by decide) rfl ?_
    refine g_sub [4, 3, 0] rfl ?_
    exact b_X9_tells_78 B N N _ _ _ h
  have h := if_f h q13
  by_cases q18 : (gi S 31 19 ((4 : Int32) * a1).toNatClampNeg) = (4 : Int32)
  · have h := if_t h q18
    refine g_tableIn (off := 63) B 105 dX9_tells_42 (by rw [q18]; decide) (by rw [q18]; decide) (by rw [q18]; rfl) (by decide) ?_
    refine g_aload_n B dX9_tells_105 3 rfl rfl ?_
    refine gt_X9_20 B m1 kf_X9_61 dX9_tells_106 ?_
    refine g_iconst (v := (4 : Int32)) B dX9_tells_109 (by decide) ?_
    refine g_iload_n B dX9_tells_110 2 rfl rfl ?_
    refine g_imul B dX9_tells_111 ?_
    refine g_iload_n B dX9_tells_112 1 rfl rfl ?_
    refine g_iadd B dX9_tells_113 ?_
    refine g_aload_n B dX9_tells_114 3 rfl rfl ?_
    refine gt_X9_20 B m1 kf_X9_61 dX9_tells_115 ?_
    refine g_iconst (v := (4 : Int32)) B dX9_tells_118 (by decide) ?_
    refine g_iload_n B dX9_tells_119 2 rfl rfl ?_
    refine g_imul B dX9_tells_120 ?_
    refine g_iload_n B dX9_tells_121 1 rfl rfl ?_
    refine g_iadd B dX9_tells_122 ?_
    obtain ⟨m19, h⟩ := ck_e h
    obtain ⟨b20, h⟩ := ck_e h
    refine g_iald (n := 24) B m19 (fun _ => rfl) b20 dX9_tells_123 ?_
    refine g_iload B dX9_tells_124 0 rfl ?_
    refine g_icmp_le B 142 dX9_tells_126 (by decide) (fun q21 => ?_) (fun q21 => ?_)
    · have h := if_t h q21
      refine g_iload B dX9_tells_142 0 rfl ?_
      obtain ⟨b22, h⟩ := ck_e h
      obtain ⟨S23, e24, h⟩ := lt_e h
      refine g_iast (n := 24) B m19 b22 (fun _ => rfl) e24 dX9_tells_144 ?_
      refine g_goto B 187 dX9_tells_145 (by decide) ?_
      obtain ⟨-, rfl⟩ := some_e h
      exact g_vret B dX9_tells_187
    · have h := if_f h q21
      refine g_aload_n B dX9_tells_129 3 rfl rfl ?_
      refine gt_X9_20 B m1 kf_X9_61 dX9_tells_130 ?_
      refine g_iconst (v := (4 : Int32)) B dX9_tells_133 (by decide) ?_
      refine g_iload_n B dX9_tells_134 2 rfl rfl ?_
      refine g_imul B dX9_tells_135 ?_
      refine g_iload_n B dX9_tells_136 1 rfl rfl ?_
      refine g_iadd B dX9_tells_137 ?_
      obtain ⟨b25, h⟩ := ck_e h
      refine g_iald (n := 24) B m19 (fun _ => rfl) b25 dX9_tells_138 ?_
      refine g_goto B 144 dX9_tells_139 (by decide) ?_
      obtain ⟨b26, h⟩ := ck_e h
      obtain ⟨S27, e28, h⟩ := lt_e h
      refine g_iast (n := 24) B m19 b26 (fun _ => rfl) e28 dX9_tells_144 ?_
      refine g_goto B 187 dX9_tells_145 (by decide) ?_
      obtain ⟨-, rfl⟩ := some_e h
      exact g_vret B dX9_tells_187
  have h := if_f h q18
  by_cases q29 : (gi S 31 19 ((4 : Int32) * a1).toNatClampNeg) = (5 : Int32)
  · have h := if_t h q29
    refine g_tableIn (off := 106) B 148 dX9_tells_42 (by rw [q29]; decide) (by rw [q29]; decide) (by rw [q29]; rfl) (by decide) ?_
    refine g_iload_n B dX9_tells_148 1 rfl rfl ?_
    refine g_istore (lv' := [(5, .int x7), (4, .int x10), (3, .int x7), (2, .int x4), (0, .ref (ad 30 0)), (1, .int a1)]) B dX9_tells_149 (by decide) rfl ?_
    refine g_sub [4, 3, 1, 0] rfl ?_
    exact b_X9_tells_151 B N N _ _ _ _ h
  have h := if_f h q29
  refine g_tableOut B 180 dX9_tells_42 (by have t0 := ti_ne (3 : Int32) (3) (by decide) q13; have t1 := ti_ne (4 : Int32) (4) (by decide) q18; have t2 := ti_ne (5 : Int32) (5) (by decide) q29; omega) (by decide) ?_
  refine g_aload_n B dX9_tells_180 3 rfl rfl ?_
  refine gt_X9_19 B m1 kf_X9_58 dX9_tells_181 ?_
  refine g_iload_n B dX9_tells_184 2 rfl rfl ?_
  refine g_iconst (v := (-1 : Int32)) B dX9_tells_185 (by decide) ?_
  obtain ⟨m30, h⟩ := ck_e h
  obtain ⟨b31, h⟩ := ck_e h
  obtain ⟨S32, e33, h⟩ := lt_e h
  refine g_iast (n := 6) B m30 b31 (fun _ => rfl) e33 dX9_tells_186 ?_
  obtain ⟨-, rfl⟩ := some_e h
  exact g_vret B dX9_tells_187
