def rm_X9_custom : Room := { frames := 5, cells := 0, slots := 0, locals := 109 }
def f_X9_custom_116 (cs : List (Nat × Nat)) (N : Nat) (K77 : Int32 → HS → Option (Int32 × HS)) : Nat → Int32 → Int32 → HS → Option (Int32 × HS)
  | 0, _, _, _ => none
  | n + 1, v2, v3, S =>
    if (52 : Int32) ≤ v3 then (
      lt_ (v2 + (1 : Int32)) (fun x2 =>
      K77 x2 S))
    else (
      ck (mc cs 30 0) (
      ck (mc cs 32 0) (
      ck (inb (((52 : Int32) * v2) + v3) 312) (
      lt_ (ui S 32 0 (((52 : Int32) * v2) + v3).toNatClampNeg (vp_nar .boolean (0 : Int32))) (fun S7 =>
      lt_ (v3 + (1 : Int32)) (fun x9 =>
      f_X9_custom_116 cs N K77 n v2 x9 S7))))))
set_option maxHeartbeats 4000000 in
set_option maxRecDepth 100000 in
theorem b_X9_custom_116 {p : Program} {l : Launch} {e : Env} {s : State} {m : MethodId} {args : Array Value} {below : List Frame} {meth : Method} {c : Code} {D : va_G} {cy : Nat → ClassId} {cs : List (Nat × Nat)} {ad : Nat → Nat → Nat} {Zp : State → Prop} {r : Int32} {Z : HS} (B : Bd p s m args meth c D cy cs ad Zp cX9_custom 4 RX9 (some .int)) (N : Nat) (K77 : Int32 → HS → Option (Int32 × HS)) (hK77 : ∀ (v2 : Int32) (S : HS), K77 v2 S = some (r, Z) → GW p l e rm_X9_custom s m args below meth c (QM below args s D cy cs ad (some (.int r)) Z) D cy cs ad 0 0 4 77 [(0, .ref (ad 30 0)), (2, .int v2)] [] S) : ∀ (n : Nat) (v2 : Int32) (v3 : Int32) (S : HS), f_X9_custom_116 cs N K77 n v2 v3 S = some (r, Z) → GW p l e rm_X9_custom s m args below meth c (QM below args s D cy cs ad (some (.int r)) Z) D cy cs ad 0 0 4 116 [(0, .ref (ad 30 0)), (2, .int v2), (3, .int v3)] [] S := by
  have hA := B.2.2.2.2.2.2.1
  have hZ := B.2.2.2.2.2.2.2.2.2.2
  intro n
  induction n with
  | zero => intro v2 v3 S h; cases h
  | succ n ih =>
    intro v2 v3 S h
    rw [f_X9_custom_116] at h
    refine g_iload_n B dX9_custom_116 2 rfl rfl ?_
    refine g_bipush (v := (52 : Int32)) B dX9_custom_117 (by decide) ?_
    refine g_icmp_ge B 140 dX9_custom_119 (by decide) (fun q1 => ?_) (fun q1 => ?_)
    · have h := if_t h q1
      obtain ⟨x2, e3, h⟩ := lt_e h
      refine g_iinc (v := x2) (lv' := [(2, .int x2), (0, .ref (ad 30 0)), (3, .int v3)]) B dX9_custom_140 (k := 1) rfl (by rw [e3]; rfl) (by decide) rfl ?_
      refine g_goto B 77 dX9_custom_143 (by decide) ?_
      refine g_sub [1, 0] rfl ?_
      exact hK77 _ _ h
    · have h := if_f h q1
      refine g_aload_n B dX9_custom_122 0 rfl rfl ?_
      obtain ⟨m4, h⟩ := ck_e h
      refine gt_X9_21 B m4 kf_X9_64 dX9_custom_123 ?_
      refine g_bipush (v := (52 : Int32)) B dX9_custom_126 (by decide) ?_
      refine g_iload_n B dX9_custom_128 1 rfl rfl ?_
      refine g_imul B dX9_custom_129 ?_
      refine g_iload_n B dX9_custom_130 2 rfl rfl ?_
      refine g_iadd B dX9_custom_131 ?_
      refine g_iconst (v := (0 : Int32)) B dX9_custom_132 (by decide) ?_
      obtain ⟨m5, h⟩ := ck_e h
      obtain ⟨b6, h⟩ := ck_e h
      obtain ⟨S7, e8, h⟩ := lt_e h
      refine g_zast (n := 312) B m5 b6 (fun _ => rfl) e8 dX9_custom_133 ?_
      obtain ⟨x9, e10, h⟩ := lt_e h
      refine g_iinc (v := x9) (lv' := [(3, .int x9), (0, .ref (ad 30 0)), (2, .int v2)]) B dX9_custom_134 (k := 2) rfl (by rw [e10]; rfl) (by decide) rfl ?_
      refine g_goto B 116 dX9_custom_137 (by decide) ?_
      refine g_sub [1, 2, 0] rfl ?_
      exact ih _ _ _ h
def f_X9_custom_92 (cs : List (Nat × Nat)) (N : Nat) (K77 : Int32 → HS → Option (Int32 × HS)) : Nat → Int32 → Int32 → HS → Option (Int32 × HS)
  | 0, _, _, _ => none
  | n + 1, v2, v3, S =>
    if (4 : Int32) ≤ v3 then (
      f_X9_custom_116 cs N K77 N v2 (0 : Int32) S)
    else (
      ck (mc cs 30 0) (
      ck (mc cs 31 17) (
      ck (inb (((4 : Int32) * v2) + v3) 24) (
      lt_ (ui S 31 17 (((4 : Int32) * v2) + v3).toNatClampNeg (-1 : Int32)) (fun S5 =>
      lt_ (v3 + (1 : Int32)) (fun x7 =>
      f_X9_custom_92 cs N K77 n v2 x7 S5))))))
set_option maxHeartbeats 4000000 in
set_option maxRecDepth 100000 in
theorem b_X9_custom_92 {p : Program} {l : Launch} {e : Env} {s : State} {m : MethodId} {args : Array Value} {below : List Frame} {meth : Method} {c : Code} {D : va_G} {cy : Nat → ClassId} {cs : List (Nat × Nat)} {ad : Nat → Nat → Nat} {Zp : State → Prop} {r : Int32} {Z : HS} (B : Bd p s m args meth c D cy cs ad Zp cX9_custom 4 RX9 (some .int)) (N : Nat) (K77 : Int32 → HS → Option (Int32 × HS)) (hK77 : ∀ (v2 : Int32) (S : HS), K77 v2 S = some (r, Z) → GW p l e rm_X9_custom s m args below meth c (QM below args s D cy cs ad (some (.int r)) Z) D cy cs ad 0 0 4 77 [(0, .ref (ad 30 0)), (2, .int v2)] [] S) : ∀ (n : Nat) (v2 : Int32) (v3 : Int32) (S : HS), f_X9_custom_92 cs N K77 n v2 v3 S = some (r, Z) → GW p l e rm_X9_custom s m args below meth c (QM below args s D cy cs ad (some (.int r)) Z) D cy cs ad 0 0 4 92 [(0, .ref (ad 30 0)), (2, .int v2), (3, .int v3)] [] S := by
  have hA := B.2.2.2.2.2.2.1
  have hZ := B.2.2.2.2.2.2.2.2.2.2
  intro n
  induction n with
  | zero => intro v2 v3 S h; cases h
  | succ n ih =>
    intro v2 v3 S h
    rw [f_X9_custom_92] at h
    refine g_iload_n B dX9_custom_92 2 rfl rfl ?_
    refine g_iconst (v := (4 : Int32)) B dX9_custom_93 (by decide) ?_
    refine g_icmp_ge B 114 dX9_custom_94 (by decide) (fun q1 => ?_) (fun q1 => ?_)
    · have h := if_t h q1
      refine g_iconst (v := (0 : Int32)) B dX9_custom_114 (by decide) ?_
      refine g_istore_n (lv' := [(3, .int (0 : Int32)), (0, .ref (ad 30 0)), (2, .int v2)]) B dX9_custom_115 rfl (by decide) rfl ?_
      refine g_sub [1, 2, 0] rfl ?_
      exact b_X9_custom_116 B N _ hK77 N _ _ _ h
    · have h := if_f h q1
      refine g_aload_n B dX9_custom_97 0 rfl rfl ?_
      obtain ⟨m2, h⟩ := ck_e h
      refine gt_X9_20 B m2 kf_X9_61 dX9_custom_98 ?_
      refine g_iconst (v := (4 : Int32)) B dX9_custom_101 (by decide) ?_
      refine g_iload_n B dX9_custom_102 1 rfl rfl ?_
      refine g_imul B dX9_custom_103 ?_
      refine g_iload_n B dX9_custom_104 2 rfl rfl ?_
      refine g_iadd B dX9_custom_105 ?_
      refine g_iconst (v := (-1 : Int32)) B dX9_custom_106 (by decide) ?_
      obtain ⟨m3, h⟩ := ck_e h
      obtain ⟨b4, h⟩ := ck_e h
      obtain ⟨S5, e6, h⟩ := lt_e h
      refine g_iast (n := 24) B m3 b4 (fun _ => rfl) e6 dX9_custom_107 ?_
      obtain ⟨x7, e8, h⟩ := lt_e h
      refine g_iinc (v := x7) (lv' := [(3, .int x7), (0, .ref (ad 30 0)), (2, .int v2)]) B dX9_custom_108 (k := 2) rfl (by rw [e8]; rfl) (by decide) rfl ?_
      refine g_goto B 92 dX9_custom_111 (by decide) ?_
      refine g_sub [1, 2, 0] rfl ?_
      exact ih _ _ _ h
def f_X9_custom_148 (cs : List (Nat × Nat)) (N : Nat)  : Nat → Int32 → HS → Option (Int32 × HS)
  | 0, _, _ => none
  | n + 1, v2, S =>
    ck (mc cs 30 0) (
    if (gi S 30 0 32) ≤ v2 then (
      some ((gi S 30 0 32), S))
    else (
      ob (f_X9_tells cs N v2 S) (fun r3 S4 =>
      lt_ (v2 + (1 : Int32)) (fun x6 =>
      f_X9_custom_148 cs N n x6 S4))))
set_option maxHeartbeats 4000000 in
set_option maxRecDepth 100000 in
theorem b_X9_custom_148 {p : Program} {l : Launch} {e : Env} {s : State} {m : MethodId} {args : Array Value} {below : List Frame} {meth : Method} {c : Code} {D : va_G} {cy : Nat → ClassId} {cs : List (Nat × Nat)} {ad : Nat → Nat → Nat} {Zp : State → Prop} {r : Int32} {Z : HS} (B : Bd p s m args meth c D cy cs ad Zp cX9_custom 4 RX9 (some .int)) (N : Nat)  : ∀ (n : Nat) (v2 : Int32) (S : HS), f_X9_custom_148 cs N n v2 S = some (r, Z) → GW p l e rm_X9_custom s m args below meth c (QM below args s D cy cs ad (some (.int r)) Z) D cy cs ad 0 0 4 148 [(0, .ref (ad 30 0)), (2, .int v2)] [] S := by
  have hA := B.2.2.2.2.2.2.1
  have hZ := B.2.2.2.2.2.2.2.2.2.2
  intro n
  induction n with
  | zero => intro v2 S h; cases h
  | succ n ih =>
    intro v2 S h
    rw [f_X9_custom_148] at h
    refine g_iload_n B dX9_custom_148 1 rfl rfl ?_
    refine g_aload_n B dX9_custom_149 0 rfl rfl ?_
    obtain ⟨m1, h⟩ := ck_e h
    refine gt_X9_32 B m1 kf_X9_185 dX9_custom_150 ?_
    refine g_icmp_ge B 167 dX9_custom_153 (by decide) (fun q2 => ?_) (fun q2 => ?_)
    · have h := if_t h q2
      refine g_aload_n B dX9_custom_167 0 rfl rfl ?_
      refine gt_X9_32 B m1 kf_X9_185 dX9_custom_168 ?_
      obtain ⟨rfl, rfl⟩ := some_e h
      exact g_iret B dX9_custom_171
    · have h := if_f h q2
      refine g_aload_n B dX9_custom_156 0 rfl rfl ?_
      refine g_iload_n B dX9_custom_157 1 rfl rfl ?_
      obtain ⟨r3, S4, e5, h⟩ := ob_e h
      refine g_cvv (rest := []) B (c_X9_tells hA hZ N _ _ _ _ e5) mf_X9_tells km_X9_201 ⟨by decide, by decide⟩ ⟨rfl, rfl⟩ m1 rfl rfl rfl rfl (Nat.le_of_ble_eq_true rfl) ⟨Nat.zero_le _, Nat.zero_le _⟩ dX9_custom_158 ?_
      obtain ⟨x6, e7, h⟩ := lt_e h
      refine g_iinc (v := x6) (lv' := [(2, .int x6), (0, .ref (ad 30 0))]) B dX9_custom_161 (k := 1) rfl (by rw [e7]; rfl) (by decide) rfl ?_
      refine g_goto B 148 dX9_custom_164 (by decide) ?_
      refine g_sub [1, 0] rfl ?_
      exact ih _ _ h
def f_X9_custom_77 (cs : List (Nat × Nat)) (N : Nat)  : Nat → Int32 → HS → Option (Int32 × HS)
  | 0, _, _ => none
  | n + 1, v2, S =>
    if (6 : Int32) ≤ v2 then (
      f_X9_custom_148 cs N N (0 : Int32) S)
    else (
      ck (mc cs 30 0) (
      ck (mc cs 31 16) (
      ck (inb v2 6) (
      lt_ (ui S 31 16 v2.toNatClampNeg (-1 : Int32)) (fun S5 =>
      f_X9_custom_92 cs N (f_X9_custom_77 cs N n) N v2 (0 : Int32) S5)))))
set_option maxHeartbeats 4000000 in
set_option maxRecDepth 100000 in
theorem b_X9_custom_77 {p : Program} {l : Launch} {e : Env} {s : State} {m : MethodId} {args : Array Value} {below : List Frame} {meth : Method} {c : Code} {D : va_G} {cy : Nat → ClassId} {cs : List (Nat × Nat)} {ad : Nat → Nat → Nat} {Zp : State → Prop} {r : Int32} {Z : HS} (B : Bd p s m args meth c D cy cs ad Zp cX9_custom 4 RX9 (some .int)) (N : Nat)  : ∀ (n : Nat) (v2 : Int32) (S : HS), f_X9_custom_77 cs N n v2 S = some (r, Z) → GW p l e rm_X9_custom s m args below meth c (QM below args s D cy cs ad (some (.int r)) Z) D cy cs ad 0 0 4 77 [(0, .ref (ad 30 0)), (2, .int v2)] [] S := by
  have hA := B.2.2.2.2.2.2.1
  have hZ := B.2.2.2.2.2.2.2.2.2.2
  intro n
  induction n with
  | zero => intro v2 S h; cases h
  | succ n ih =>
    intro v2 S h
    rw [f_X9_custom_77] at h
    refine g_iload_n B dX9_custom_77 1 rfl rfl ?_
    refine g_bipush (v := (6 : Int32)) B dX9_custom_78 (by decide) ?_
    refine g_icmp_ge B 146 dX9_custom_80 (by decide) (fun q1 => ?_) (fun q1 => ?_)
    · have h := if_t h q1
      refine g_iconst (v := (0 : Int32)) B dX9_custom_146 (by decide) ?_
      refine g_istore_n (lv' := [(2, .int (0 : Int32)), (0, .ref (ad 30 0))]) B dX9_custom_147 rfl (by decide) rfl ?_
      refine g_sub [1, 0] rfl ?_
      exact b_X9_custom_148 B N N _ _ h
    · have h := if_f h q1
      refine g_aload_n B dX9_custom_83 0 rfl rfl ?_
      obtain ⟨m2, h⟩ := ck_e h
      refine gt_X9_19 B m2 kf_X9_58 dX9_custom_84 ?_
      refine g_iload_n B dX9_custom_87 1 rfl rfl ?_
      refine g_iconst (v := (-1 : Int32)) B dX9_custom_88 (by decide) ?_
      obtain ⟨m3, h⟩ := ck_e h
      obtain ⟨b4, h⟩ := ck_e h
      obtain ⟨S5, e6, h⟩ := lt_e h
      refine g_iast (n := 6) B m3 b4 (fun _ => rfl) e6 dX9_custom_89 ?_
      refine g_iconst (v := (0 : Int32)) B dX9_custom_90 (by decide) ?_
      refine g_istore_n (lv' := [(3, .int (0 : Int32)), (0, .ref (ad 30 0)), (2, .int v2)]) B dX9_custom_91 rfl (by decide) rfl ?_
      refine g_sub [1, 2, 0] rfl ?_
      exact b_X9_custom_92 B N _ ih N _ _ _ h
def f_X9_custom_66 (cs : List (Nat × Nat)) (N : Nat)  (v1 : Int32) (t0 : Int32) (S : HS) : Option (Int32 × HS) :=
  ck (mc cs 30 0) (
  lt_ (ui S 30 0 34 t0) (fun S2 =>
  if v1 = 0 then (
    some ((-1 : Int32), S2))
  else (
    f_X9_custom_77 cs N N (0 : Int32) S2)))
set_option maxHeartbeats 4000000 in
set_option maxRecDepth 100000 in
theorem b_X9_custom_66 {p : Program} {l : Launch} {e : Env} {s : State} {m : MethodId} {args : Array Value} {below : List Frame} {meth : Method} {c : Code} {D : va_G} {cy : Nat → ClassId} {cs : List (Nat × Nat)} {ad : Nat → Nat → Nat} {Zp : State → Prop} {r : Int32} {Z : HS} (B : Bd p s m args meth c D cy cs ad Zp cX9_custom 4 RX9 (some .int)) (N : Nat)  (v1 : Int32) (t0 : Int32) (S : HS) (h : f_X9_custom_66 cs N v1 t0 S = some (r, Z)) : GW p l e rm_X9_custom s m args below meth c (QM below args s D cy cs ad (some (.int r)) Z) D cy cs ad 0 0 4 66 [(0, .ref (ad 30 0)), (1, .int v1)] [.int t0, .ref (ad 30 0)] S := by
  have hA := B.2.2.2.2.2.2.1
  have hZ := B.2.2.2.2.2.2.2.2.2.2
  unfold f_X9_custom_66 at h
  obtain ⟨m1, h⟩ := ck_e h
  obtain ⟨S2, e3, h⟩ := lt_e h
  refine pt_X9_34 B m1 kf_X9_74 e3 dX9_custom_66 ?_
  refine g_iload_n B dX9_custom_69 1 rfl rfl ?_
  refine g_if_ne B 75 dX9_custom_70 (by decide) (fun q4 => ?_) (fun q4 => ?_)
  · have h := if_f h q4
    refine g_iconst (v := (0 : Int32)) B dX9_custom_75 (by decide) ?_
    refine g_istore_n (lv' := [(2, .int (0 : Int32)), (0, .ref (ad 30 0)), (1, .int v1)]) B dX9_custom_76 rfl (by decide) rfl ?_
    refine g_sub [1, 0] rfl ?_
    exact b_X9_custom_77 B N N _ _ h
  · have h := if_t h q4
    refine g_iconst (v := (-1 : Int32)) B dX9_custom_73 (by decide) ?_
    obtain ⟨rfl, rfl⟩ := some_e h
    exact g_iret B dX9_custom_74
def f_X9_custom_40 (cs : List (Nat × Nat)) (N : Nat)  (v1 : Int32) (S : HS) : Option (Int32 × HS) :=
  ck (mc cs 30 0) (
  lt_ (ui S 30 0 24 (0 : Int32)) (fun S2 =>
  lt_ (ui S2 30 0 31 (gi S2 30 0 29)) (fun S4 =>
  if v1 = 0 then (
    f_X9_custom_66 cs N v1 (gi S4 30 0 30) S4)
  else (
    f_X9_custom_66 cs N v1 (-1 : Int32) S4))))
set_option maxHeartbeats 4000000 in
set_option maxRecDepth 100000 in
theorem b_X9_custom_40 {p : Program} {l : Launch} {e : Env} {s : State} {m : MethodId} {args : Array Value} {below : List Frame} {meth : Method} {c : Code} {D : va_G} {cy : Nat → ClassId} {cs : List (Nat × Nat)} {ad : Nat → Nat → Nat} {Zp : State → Prop} {r : Int32} {Z : HS} (B : Bd p s m args meth c D cy cs ad Zp cX9_custom 4 RX9 (some .int)) (N : Nat)  (v1 : Int32) (S : HS) (h : f_X9_custom_40 cs N v1 S = some (r, Z)) : GW p l e rm_X9_custom s m args below meth c (QM below args s D cy cs ad (some (.int r)) Z) D cy cs ad 0 0 4 40 [(0, .ref (ad 30 0)), (1, .int v1)] [] S := by
  have hA := B.2.2.2.2.2.2.1
  have hZ := B.2.2.2.2.2.2.2.2.2.2
  unfold f_X9_custom_40 at h
  refine g_aload_n B dX9_custom_40 0 rfl rfl ?_
  refine g_iconst (v := (0 : Int32)) B dX9_custom_41 (by decide) ?_
  obtain ⟨m1, h⟩ := ck_e h
  obtain ⟨S2, e3, h⟩ := lt_e h
  refine pt_X9_24 B m1 kf_X9_125 e3 dX9_custom_42 ?_
  refine g_aload_n B dX9_custom_45 0 rfl rfl ?_
  refine g_aload_n B dX9_custom_46 0 rfl rfl ?_
  refine gt_X9_29 B m1 kf_X9_170 dX9_custom_47 ?_
  obtain ⟨S4, e5, h⟩ := lt_e h
  refine pt_X9_31 B m1 kf_X9_198 e5 dX9_custom_50 ?_
  refine g_aload_n B dX9_custom_53 0 rfl rfl ?_
  refine g_iload_n B dX9_custom_54 1 rfl rfl ?_
  refine g_if_eq B 62 dX9_custom_55 (by decide) (fun q6 => ?_) (fun q6 => ?_)
  · have h := if_t h q6
    refine g_aload_n B dX9_custom_62 0 rfl rfl ?_
    refine gt_X9_30 B m1 kf_X9_173 dX9_custom_63 ?_
    exact b_X9_custom_66 B N _ _ _ h
  · have h := if_f h q6
    refine g_iconst (v := (-1 : Int32)) B dX9_custom_58 (by decide) ?_
    refine g_goto B 66 dX9_custom_59 (by decide) ?_
    exact b_X9_custom_66 B N _ _ _ h
def f_X9_custom_21 (cs : List (Nat × Nat)) (N : Nat)  : Nat → Int32 → HS → Option (Int32 × HS)
  | 0, _, _ => none
  | n + 1, v1, S =>
    if v1 = 0 then (
      f_X9_custom_40 cs N v1 S)
    else (
      ck (mc cs 30 0) (
      if (gi S 30 0 26) = 0 then (
        f_X9_custom_40 cs N v1 S)
      else (
        ob (f_X9_aLine cs N  S) (fun r4 S5 =>
        f_X9_custom_21 cs N n r4 S5))))
set_option maxHeartbeats 4000000 in
set_option maxRecDepth 100000 in
theorem b_X9_custom_21 {p : Program} {l : Launch} {e : Env} {s : State} {m : MethodId} {args : Array Value} {below : List Frame} {meth : Method} {c : Code} {D : va_G} {cy : Nat → ClassId} {cs : List (Nat × Nat)} {ad : Nat → Nat → Nat} {Zp : State → Prop} {r : Int32} {Z : HS} (B : Bd p s m args meth c D cy cs ad Zp cX9_custom 4 RX9 (some .int)) (N : Nat)  : ∀ (n : Nat) (v1 : Int32) (S : HS), f_X9_custom_21 cs N n v1 S = some (r, Z) → GW p l e rm_X9_custom s m args below meth c (QM below args s D cy cs ad (some (.int r)) Z) D cy cs ad 0 0 4 21 [(0, .ref (ad 30 0)), (1, .int v1)] [] S := by
  have hA := B.2.2.2.2.2.2.1
  have hZ := B.2.2.2.2.2.2.2.2.2.2
  intro n
  induction n with
  | zero => intro v1 S h; cases h
  | succ n ih =>
    intro v1 S h
    rw [f_X9_custom_21] at h
    refine g_iload_n B dX9_custom_21 1 rfl rfl ?_
    refine g_if_eq B 40 dX9_custom_22 (by decide) (fun q1 => ?_) (fun q1 => ?_)
    · have h := if_t h q1
      exact b_X9_custom_40 B N _ _ h
    · have h := if_f h q1
      refine g_aload_n B dX9_custom_25 0 rfl rfl ?_
      obtain ⟨m2, h⟩ := ck_e h
      refine gt_X9_26 B m2 kf_X9_154 dX9_custom_26 ?_
      refine g_if_eq B 40 dX9_custom_29 (by decide) (fun q3 => ?_) (fun q3 => ?_)
      · have h := if_t h q3
        exact b_X9_custom_40 B N _ _ h
      · have h := if_f h q3
        refine g_aload_n B dX9_custom_32 0 rfl rfl ?_
        obtain ⟨r4, S5, e6, h⟩ := ob_e h
        refine g_cvi (rest := []) B (c_X9_aLine hA hZ N  _ _ _ e6) mf_X9_aLine km_X9_194 ⟨by decide, by decide⟩ ⟨rfl, rfl⟩ m2 rfl rfl rfl rfl (Nat.le_of_ble_eq_true rfl) ⟨Nat.zero_le _, Nat.zero_le _⟩ dX9_custom_33 ?_
        refine g_istore_n (lv' := [(1, .int r4), (0, .ref (ad 30 0))]) B dX9_custom_36 rfl (by decide) rfl ?_
        refine g_goto B 21 dX9_custom_37 (by decide) ?_
        refine g_sub [1, 0] rfl ?_
        exact ih _ _ h
def f_X9_custom (cs : List (Nat × Nat)) (N : Nat)  (S : HS) : Option (Int32 × HS) :=
  ck (mc cs 30 0) (
  lt_ (ui S 30 0 29 (0 : Int32)) (fun S2 =>
  lt_ (ui S2 30 0 25 (0 : Int32)) (fun S4 =>
  lt_ (ui S4 30 0 32 (0 : Int32)) (fun S6 =>
  ob (f_X9_next0 cs N  S6) (fun r8 S9 =>
  f_X9_custom_21 cs N N (1 : Int32) S9)))))
set_option maxHeartbeats 4000000 in
set_option maxRecDepth 100000 in
theorem c_X9_custom {l : Launch} {D : va_G} {cy : Nat → ClassId} {cs : List (Nat × Nat)} {ad : Nat → Nat → Nat} {Zp : State → Prop} (hA : AdOk cs ad) (hZ : ZOk cs ad Zp) (N : Nat)  (S : HS) (r : Int32) (Z : HS) (h : f_X9_custom cs N  S = some (r, Z)) : Ctr Zp l yX9_custom cX9_custom 4 (some .int) rm_X9_custom D cy cs ad [.ref (ad 30 0)] S (some (.int r)) Z := by
  unfold f_X9_custom at h
  refine Ctr.of hA hZ RX9 (plainFor_of_name (by decide)) rfl [(0, .ref (ad 30 0))] rfl (Nat.le_of_ble_eq_true rfl) (fun p e s m below meth c B => ?_)
  refine g_aload_n B dX9_custom_0 0 rfl rfl ?_
  refine g_iconst (v := (0 : Int32)) B dX9_custom_1 (by decide) ?_
  obtain ⟨m1, h⟩ := ck_e h
  obtain ⟨S2, e3, h⟩ := lt_e h
  refine pt_X9_29 B m1 kf_X9_170 e3 dX9_custom_2 ?_
  refine g_aload_n B dX9_custom_5 0 rfl rfl ?_
  refine g_iconst (v := (0 : Int32)) B dX9_custom_6 (by decide) ?_
  obtain ⟨S4, e5, h⟩ := lt_e h
  refine pt_X9_25 B m1 kf_X9_144 e5 dX9_custom_7 ?_
  refine g_aload_n B dX9_custom_10 0 rfl rfl ?_
  refine g_iconst (v := (0 : Int32)) B dX9_custom_11 (by decide) ?_
  obtain ⟨S6, e7, h⟩ := lt_e h
  refine pt_X9_32 B m1 kf_X9_185 e7 dX9_custom_12 ?_
  refine g_aload_n B dX9_custom_15 0 rfl rfl ?_
  obtain ⟨r8, S9, e10, h⟩ := ob_e h
  refine g_cvv (rest := []) B (c_X9_next0 hA hZ N  _ _ _ e10) mf_X9_next0 km_X9_179 ⟨by decide, by decide⟩ ⟨rfl, rfl⟩ m1 rfl rfl rfl rfl (Nat.le_of_ble_eq_true rfl) ⟨Nat.zero_le _, Nat.zero_le _⟩ dX9_custom_16 ?_
  refine g_iconst (v := (1 : Int32)) B dX9_custom_19 (by decide) ?_
  refine g_istore_n (lv' := [(1, .int (1 : Int32)), (0, .ref (ad 30 0))]) B dX9_custom_20 rfl (by decide) rfl ?_
  refine g_sub [1, 0] rfl ?_
  exact b_X9_custom_21 B N N _ _ h

def rm_X9_fault : Room := { frames := 0, cells := 0, slots := 0, locals := 0 }
def f_X9_fault (cs : List (Nat × Nat)) (N : Nat) (a1 : Int32) (S : HS) : Option (Int32 × HS) :=
  if a1 = 0 then (
    ck (mc cs 30 0) (
    some ((gi S 30 0 31), S)))
  else (
    if a1 = (1 : Int32) then (
      ck (mc cs 30 0) (
      some ((gi S 30 0 34), S)))
    else (
      some ((-1 : Int32), S)))
set_option maxHeartbeats 4000000 in
set_option maxRecDepth 100000 in
theorem c_X9_fault {l : Launch} {D : va_G} {cy : Nat → ClassId} {cs : List (Nat × Nat)} {ad : Nat → Nat → Nat} {Zp : State → Prop} (hA : AdOk cs ad) (hZ : ZOk cs ad Zp) (N : Nat) (a1 : Int32) (S : HS) (r : Int32) (Z : HS) (h : f_X9_fault cs N a1 S = some (r, Z)) : Ctr Zp l yX9_fault cX9_fault 2 (some .int) rm_X9_fault D cy cs ad [.ref (ad 30 0), .int a1] S (some (.int r)) Z := by
  unfold f_X9_fault at h
  refine Ctr.of hA hZ RX9 (plainFor_of_name (by decide)) rfl [(0, .ref (ad 30 0)), (1, .int a1)] rfl (Nat.le_of_ble_eq_true rfl) (fun p e s m below meth c B => ?_)
  refine g_iload_n B dX9_fault_0 1 rfl rfl ?_
  refine g_if_ne B 11 dX9_fault_1 (by decide) (fun q1 => ?_) (fun q1 => ?_)
  · have h := if_f h q1
    refine g_iload_n B dX9_fault_11 1 rfl rfl ?_
    refine g_iconst (v := (1 : Int32)) B dX9_fault_12 (by decide) ?_
    refine g_icmp_ne B 23 dX9_fault_13 (by decide) (fun q2 => ?_) (fun q2 => ?_)
    · have h := if_f h q2
      refine g_iconst (v := (-1 : Int32)) B dX9_fault_23 (by decide) ?_
      obtain ⟨rfl, rfl⟩ := some_e h
      exact g_iret B dX9_fault_24
    · have h := if_t h q2
      refine g_aload_n B dX9_fault_16 0 rfl rfl ?_
      obtain ⟨m3, h⟩ := ck_e h
      refine gt_X9_34 B m3 kf_X9_74 dX9_fault_17 ?_
      refine g_goto B 24 dX9_fault_20 (by decide) ?_
      obtain ⟨rfl, rfl⟩ := some_e h
      exact g_iret B dX9_fault_24
  · have h := if_t h q1
    refine g_aload_n B dX9_fault_4 0 rfl rfl ?_
    obtain ⟨m4, h⟩ := ck_e h
    refine gt_X9_31 B m4 kf_X9_198 dX9_fault_5 ?_
    refine g_goto B 24 dX9_fault_8 (by decide) ?_
    obtain ⟨rfl, rfl⟩ := some_e h
    exact g_iret B dX9_fault_24

def rm_X9_isAllowed : Room := { frames := 0, cells := 0, slots := 0, locals := 0 }
def f_X9_isAllowed (cs : List (Nat × Nat)) (N : Nat) (a1 : Int32) (a2 : Int32) (a3 : Int32) (S : HS) : Option (Int32 × HS) :=
  ck (mc cs 30 0) (
  ck (mc cs 32 0) (
  ck (inb (((52 : Int32) * a2) + a3) 312) (
  if (gi S 32 0 (((52 : Int32) * a2) + a3).toNatClampNeg) = 0 then (
    ck (mc cs 31 16) (
    ck (inb a2 6) (
    if (gi S 31 16 a2.toNatClampNeg) = (-1 : Int32) then (
      some ((1 : Int32), S))
    else (
      ck (inb a2 6) (
      if (gi S 31 16 a2.toNatClampNeg) = a1 then (
        some ((1 : Int32), S))
      else (
        ck (mc cs 31 17) (
        ck (inb (((4 : Int32) * a2) + a1) 24) (
        if (gi S 31 17 (((4 : Int32) * a2) + a1).toNatClampNeg) < a3 then (
          some ((0 : Int32), S))
        else (
          some ((1 : Int32), S))))))))))
  else (
    some ((0 : Int32), S)))))
set_option maxHeartbeats 4000000 in
set_option maxRecDepth 100000 in
theorem c_X9_isAllowed {l : Launch} {D : va_G} {cy : Nat → ClassId} {cs : List (Nat × Nat)} {ad : Nat → Nat → Nat} {Zp : State → Prop} (hA : AdOk cs ad) (hZ : ZOk cs ad Zp) (N : Nat) (a1 : Int32) (a2 : Int32) (a3 : Int32) (S : HS) (r : Int32) (Z : HS) (h : f_X9_isAllowed cs N a1 a2 a3 S = some (r, Z)) : Ctr Zp l yX9_isAllowed cX9_isAllowed 4 (some .boolean) rm_X9_isAllowed D cy cs ad [.ref (ad 30 0), .int a1, .int a2, .int a3] S (some (.int r)) Z := by
  unfold f_X9_isAllowed at h
  refine Ctr.of hA hZ RX9 (plainFor_of_name (by decide)) rfl [(0, .ref (ad 30 0)), (1, .int a1), (2, .int a2), (3, .int a3)] rfl (Nat.le_of_ble_eq_true rfl) (fun p e s m below meth c B => ?_)
  refine g_aload_n B dX9_isAllowed_0 0 rfl rfl ?_
  obtain ⟨m1, h⟩ := ck_e h
  refine gt_X9_21 B m1 kf_X9_64 dX9_isAllowed_1 ?_
  refine g_bipush (v := (52 : Int32)) B dX9_isAllowed_4 (by decide) ?_
  refine g_iload_n B dX9_isAllowed_6 2 rfl rfl ?_
  refine g_imul B dX9_isAllowed_7 ?_
  refine g_iload_n B dX9_isAllowed_8 3 rfl rfl ?_
  refine g_iadd B dX9_isAllowed_9 ?_
  obtain ⟨m2, h⟩ := ck_e h
  obtain ⟨b3, h⟩ := ck_e h
  refine g_zald (n := 312) B m2 (fun _ => rfl) b3 dX9_isAllowed_10 ?_
  refine g_if_ne B 52 dX9_isAllowed_11 (by decide) (fun q4 => ?_) (fun q4 => ?_)
  · have h := if_f h q4
    refine g_iconst (v := (0 : Int32)) B dX9_isAllowed_52 (by decide) ?_
    obtain ⟨rfl, rfl⟩ := some_e h
    exact g_zret B (by decide) dX9_isAllowed_53
  · have h := if_t h q4
    refine g_aload_n B dX9_isAllowed_14 0 rfl rfl ?_
    refine gt_X9_19 B m1 kf_X9_58 dX9_isAllowed_15 ?_
    refine g_iload_n B dX9_isAllowed_18 2 rfl rfl ?_
    obtain ⟨m5, h⟩ := ck_e h
    obtain ⟨b6, h⟩ := ck_e h
    refine g_iald (n := 6) B m5 (fun _ => rfl) b6 dX9_isAllowed_19 ?_
    refine g_iconst (v := (-1 : Int32)) B dX9_isAllowed_20 (by decide) ?_
    refine g_icmp_eq B 48 dX9_isAllowed_21 (by decide) (fun q7 => ?_) (fun q7 => ?_)
    · have h := if_t h q7
      refine g_iconst (v := (1 : Int32)) B dX9_isAllowed_48 (by decide) ?_
      refine g_goto B 53 dX9_isAllowed_49 (by decide) ?_
      obtain ⟨rfl, rfl⟩ := some_e h
      exact g_zret B (by decide) dX9_isAllowed_53
    · have h := if_f h q7
      refine g_aload_n B dX9_isAllowed_24 0 rfl rfl ?_
      refine gt_X9_19 B m1 kf_X9_58 dX9_isAllowed_25 ?_
      refine g_iload_n B dX9_isAllowed_28 2 rfl rfl ?_
      obtain ⟨b8, h⟩ := ck_e h
      refine g_iald (n := 6) B m5 (fun _ => rfl) b8 dX9_isAllowed_29 ?_
      refine g_iload_n B dX9_isAllowed_30 1 rfl rfl ?_
      refine g_icmp_eq B 48 dX9_isAllowed_31 (by decide) (fun q9 => ?_) (fun q9 => ?_)
      · have h := if_t h q9
        refine g_iconst (v := (1 : Int32)) B dX9_isAllowed_48 (by decide) ?_
        refine g_goto B 53 dX9_isAllowed_49 (by decide) ?_
        obtain ⟨rfl, rfl⟩ := some_e h
        exact g_zret B (by decide) dX9_isAllowed_53
      · have h := if_f h q9
        refine g_aload_n B dX9_isAllowed_34 0 rfl rfl ?_
        refine gt_X9_20 B m1 kf_X9_61 dX9_isAllowed_35 ?_
        refine g_iconst (v := (4 : Int32)) B dX9_isAllowed_38 (by decide) ?_
        refine g_iload_n B dX9_isAllowed_39 2 rfl rfl ?_
        refine g_imul B dX9_isAllowed_40 ?_
        refine g_iload_n B dX9_isAllowed_41 1 rfl rfl ?_
        refine g_iadd B dX9_isAllowed_42 ?_
        obtain ⟨m10, h⟩ := ck_e h
        obtain ⟨b11, h⟩ := ck_e h
        refine g_iald (n := 24) B m10 (fun _ => rfl) b11 dX9_isAllowed_43 ?_
        refine g_iload_n B dX9_isAllowed_44 3 rfl rfl ?_
        refine g_icmp_lt B 52 dX9_isAllowed_45 (by decide) (fun q12 => ?_) (fun q12 => ?_)
        · have h := if_t h q12
          refine g_iconst (v := (0 : Int32)) B dX9_isAllowed_52 (by decide) ?_
          obtain ⟨rfl, rfl⟩ := some_e h
          exact g_zret B (by decide) dX9_isAllowed_53
        · have h := if_f h q12
          refine g_iconst (v := (1 : Int32)) B dX9_isAllowed_48 (by decide) ?_
          refine g_goto B 53 dX9_isAllowed_49 (by decide) ?_
          obtain ⟨rfl, rfl⟩ := some_e h
          exact g_zret B (by decide) dX9_isAllowed_53

def rm_X9_may : Room := { frames := 2, cells := 0, slots := 0, locals := 43 }
def f_X9_may (cs : List (Nat × Nat)) (N : Nat) (a1 : Int32) (a2 : Int32) (a3 : Int32) (S : HS) : Option (Int32 × HS) :=
  ob (f_X9_isFamily cs N a1 S) (fun r1 S2 =>
  if r1 = 0 then (
    some ((-1 : Int32), S2))
  else (
    ob (f_X9_isPattern cs N a2 S2) (fun r5 S6 =>
    if r5 = 0 then (
      some ((-1 : Int32), S6))
    else (
      ob (f_X9_isWeek cs N a3 (0 : Int32) S6) (fun r9 S10 =>
      if r9 = 0 then (
        some ((-1 : Int32), S10))
      else (
        ck (mc cs 30 0) (
        ob (f_X9_isAllowed cs N a1 a2 a3 S10) (fun r14 S15 =>
        if r14 = 0 then (
          some ((0 : Int32), S15))
        else (
          some ((1 : Int32), S15))))))))))
set_option maxHeartbeats 4000000 in
set_option maxRecDepth 100000 in
theorem c_X9_may {l : Launch} {D : va_G} {cy : Nat → ClassId} {cs : List (Nat × Nat)} {ad : Nat → Nat → Nat} {Zp : State → Prop} (hA : AdOk cs ad) (hZ : ZOk cs ad Zp) (N : Nat) (a1 : Int32) (a2 : Int32) (a3 : Int32) (S : HS) (r : Int32) (Z : HS) (h : f_X9_may cs N a1 a2 a3 S = some (r, Z)) : Ctr Zp l yX9_may cX9_may 4 (some .int) rm_X9_may D cy cs ad [.ref (ad 30 0), .int a1, .int a2, .int a3] S (some (.int r)) Z := by
  unfold f_X9_may at h
  refine Ctr.of hA hZ RX9 (plainFor_of_name (by decide)) rfl [(0, .ref (ad 30 0)), (1, .int a1), (2, .int a2), (3, .int a3)] rfl (Nat.le_of_ble_eq_true rfl) (fun p e s m below meth c B => ?_)
  refine g_iload_n B dX9_may_0 1 rfl rfl ?_
  obtain ⟨r1, S2, e3, h⟩ := ob_e h
  refine g_csi (rest := []) B (c_X9_isFamily hA hZ N _ _ _ _ e3) mf_X9_isFamily km_X9_100 ⟨by decide, by decide⟩ ⟨rfl, rfl⟩ rfl rfl (Nat.le_of_ble_eq_true rfl) ⟨Nat.zero_le _, Nat.zero_le _⟩ dX9_may_1 ?_
  refine g_if_eq B 22 dX9_may_4 (by decide) (fun q4 => ?_) (fun q4 => ?_)
  · have h := if_t h q4
    refine g_iconst (v := (-1 : Int32)) B dX9_may_22 (by decide) ?_
    refine g_goto B 41 dX9_may_23 (by decide) ?_
    obtain ⟨rfl, rfl⟩ := some_e h
    exact g_iret B dX9_may_41
  · have h := if_f h q4
    refine g_iload_n B dX9_may_7 2 rfl rfl ?_
    obtain ⟨r5, S6, e7, h⟩ := ob_e h
    refine g_csi (rest := []) B (c_X9_isPattern hA hZ N _ _ _ _ e7) mf_X9_isPattern km_X9_114 ⟨by decide, by decide⟩ ⟨rfl, rfl⟩ rfl rfl (Nat.le_of_ble_eq_true rfl) ⟨Nat.zero_le _, Nat.zero_le _⟩ dX9_may_8 ?_
    refine g_if_eq B 22 dX9_may_11 (by decide) (fun q8 => ?_) (fun q8 => ?_)
    · have h := if_t h q8
      refine g_iconst (v := (-1 : Int32)) B dX9_may_22 (by decide) ?_
      refine g_goto B 41 dX9_may_23 (by decide) ?_
      obtain ⟨rfl, rfl⟩ := some_e h
      exact g_iret B dX9_may_41
    · have h := if_f h q8
      refine g_iload_n B dX9_may_14 3 rfl rfl ?_
      refine g_iconst (v := (0 : Int32)) B dX9_may_15 (by decide) ?_
      obtain ⟨r9, S10, e11, h⟩ := ob_e h
      refine g_csi (rest := []) B (c_X9_isWeek hA hZ N _ _ _ _ _ e11) mf_X9_isWeek km_X9_107 ⟨by decide, by decide⟩ ⟨rfl, rfl⟩ rfl rfl (Nat.le_of_ble_eq_true rfl) ⟨Nat.zero_le _, Nat.zero_le _⟩ dX9_may_16 ?_
      refine g_if_ne B 26 dX9_may_19 (by decide) (fun q12 => ?_) (fun q12 => ?_)
      · have h := if_f h q12
        refine g_aload_n B dX9_may_26 0 rfl rfl ?_
        refine g_iload_n B dX9_may_27 1 rfl rfl ?_
        refine g_iload_n B dX9_may_28 2 rfl rfl ?_
        refine g_iload_n B dX9_may_29 3 rfl rfl ?_
        obtain ⟨m13, h⟩ := ck_e h
        obtain ⟨r14, S15, e16, h⟩ := ob_e h
        refine g_cvi (rest := []) B (c_X9_isAllowed hA hZ N _ _ _ _ _ _ e16) mf_X9_isAllowed km_X9_204 ⟨by decide, by decide⟩ ⟨rfl, rfl⟩ m13 rfl rfl rfl rfl (Nat.le_of_ble_eq_true rfl) ⟨Nat.zero_le _, Nat.zero_le _⟩ dX9_may_30 ?_
        refine g_if_eq B 40 dX9_may_33 (by decide) (fun q17 => ?_) (fun q17 => ?_)
        · have h := if_t h q17
          refine g_iconst (v := (0 : Int32)) B dX9_may_40 (by decide) ?_
          obtain ⟨rfl, rfl⟩ := some_e h
          exact g_iret B dX9_may_41
        · have h := if_f h q17
          refine g_iconst (v := (1 : Int32)) B dX9_may_36 (by decide) ?_
          refine g_goto B 41 dX9_may_37 (by decide) ?_
          obtain ⟨rfl, rfl⟩ := some_e h
          exact g_iret B dX9_may_41
      · have h := if_t h q12
        refine g_iconst (v := (-1 : Int32)) B dX9_may_22 (by decide) ?_
        refine g_goto B 41 dX9_may_23 (by decide) ?_
        obtain ⟨rfl, rfl⟩ := some_e h
        exact g_iret B dX9_may_41

def rm_X9_left : Room := { frames := 0, cells := 0, slots := 0, locals := 0 }
def f_X9_left (cs : List (Nat × Nat)) (N : Nat) (a1 : Int32) (a2 : Int32) (S : HS) : Option (Int32 × HS) :=
  ck (mc cs 30 0) (
  ck (mc cs 31 15) (
  ck (inb a2 7) (
  if (gi S 31 15 a2.toNatClampNeg) = a1 then (
    ck (mc cs 31 11) (
    ck (inb a2 7) (
    ck (mc cs 31 14) (
    ck (inb a2 7) (
    some (((gi S 31 11 a2.toNatClampNeg) - (gi S 31 14 a2.toNatClampNeg)), S))))))
  else (
    ck (mc cs 31 11) (
    ck (inb a2 7) (
    some ((gi S 31 11 a2.toNatClampNeg), S)))))))
set_option maxHeartbeats 4000000 in
set_option maxRecDepth 100000 in
theorem c_X9_left {l : Launch} {D : va_G} {cy : Nat → ClassId} {cs : List (Nat × Nat)} {ad : Nat → Nat → Nat} {Zp : State → Prop} (hA : AdOk cs ad) (hZ : ZOk cs ad Zp) (N : Nat) (a1 : Int32) (a2 : Int32) (S : HS) (r : Int32) (Z : HS) (h : f_X9_left cs N a1 a2 S = some (r, Z)) : Ctr Zp l yX9_left cX9_left 3 (some .int) rm_X9_left D cy cs ad [.ref (ad 30 0), .int a1, .int a2] S (some (.int r)) Z := by
  unfold f_X9_left at h
  refine Ctr.of hA hZ RX9 (plainFor_of_name (by decide)) rfl [(0, .ref (ad 30 0)), (1, .int a1), (2, .int a2)] rfl (Nat.le_of_ble_eq_true rfl) (fun p e s m below meth c B => ?_)
  refine g_aload_n B dX9_left_0 0 rfl rfl ?_
  obtain ⟨m1, h⟩ := ck_e h
  refine gt_X9_18 B m1 kf_X9_55 dX9_left_1 ?_
  refine g_iload_n B dX9_left_4 2 rfl rfl ?_
  obtain ⟨m2, h⟩ := ck_e h
  obtain ⟨b3, h⟩ := ck_e h
  refine g_iald (n := 7) B m2 (fun _ => rfl) b3 dX9_left_5 ?_
  refine g_iload_n B dX9_left_6 1 rfl rfl ?_
  refine g_icmp_ne B 26 dX9_left_7 (by decide) (fun q4 => ?_) (fun q4 => ?_)
  · have h := if_f h q4
    refine g_aload_n B dX9_left_26 0 rfl rfl ?_
    refine gt_X9_14 B m1 kf_X9_43 dX9_left_27 ?_
    refine g_iload_n B dX9_left_30 2 rfl rfl ?_
    obtain ⟨m5, h⟩ := ck_e h
    obtain ⟨b6, h⟩ := ck_e h
    refine g_iald (n := 7) B m5 (fun _ => rfl) b6 dX9_left_31 ?_
    obtain ⟨rfl, rfl⟩ := some_e h
    exact g_iret B dX9_left_32
  · have h := if_t h q4
    refine g_aload_n B dX9_left_10 0 rfl rfl ?_
    refine gt_X9_14 B m1 kf_X9_43 dX9_left_11 ?_
    refine g_iload_n B dX9_left_14 2 rfl rfl ?_
    obtain ⟨m7, h⟩ := ck_e h
    obtain ⟨b8, h⟩ := ck_e h
    refine g_iald (n := 7) B m7 (fun _ => rfl) b8 dX9_left_15 ?_
    refine g_aload_n B dX9_left_16 0 rfl rfl ?_
    refine gt_X9_17 B m1 kf_X9_52 dX9_left_17 ?_
    refine g_iload_n B dX9_left_20 2 rfl rfl ?_
    obtain ⟨m9, h⟩ := ck_e h
    obtain ⟨b10, h⟩ := ck_e h
    refine g_iald (n := 7) B m9 (fun _ => rfl) b10 dX9_left_21 ?_
    refine g_isub B dX9_left_22 ?_
    refine g_goto B 32 dX9_left_23 (by decide) ?_
    obtain ⟨rfl, rfl⟩ := some_e h
    exact g_iret B dX9_left_32

def rm_X9_sorts : Room := { frames := 0, cells := 0, slots := 0, locals := 0 }
def f_X9_sorts_77 (cs : List (Nat × Nat)) (N : Nat) (K7 : Int32 → Int32 → HS → Option (Unit × HS)) (v1 : Int32) (v2 : Int32) (v3 : Int32) (S : HS) : Option (Unit × HS) :=
  ck (mc cs 30 0) (
  ck (mc cs 31 20) (
  ck (inb v3 7) (
  lt_ (ui S 31 20 v3.toNatClampNeg v2) (fun S4 =>
  lt_ (ui S4 30 0 36 ((gi S4 30 0 36) + (1 : Int32))) (fun S6 =>
  lt_ (v2 + (1 : Int32)) (fun x8 =>
  K7 v1 x8 S6))))))
set_option maxHeartbeats 4000000 in
set_option maxRecDepth 100000 in
theorem b_X9_sorts_77 {p : Program} {l : Launch} {e : Env} {s : State} {m : MethodId} {args : Array Value} {below : List Frame} {meth : Method} {c : Code} {D : va_G} {cy : Nat → ClassId} {cs : List (Nat × Nat)} {ad : Nat → Nat → Nat} {Zp : State → Prop} {r : Unit} {Z : HS} (B : Bd p s m args meth c D cy cs ad Zp cX9_sorts 4 RX9 none) (N : Nat) (K7 : Int32 → Int32 → HS → Option (Unit × HS)) (hK7 : ∀ (v1 : Int32) (v2 : Int32) (S : HS), K7 v1 v2 S = some (r, Z) → GW p l e rm_X9_sorts s m args below meth c (QM below args s D cy cs ad (none) Z) D cy cs ad 0 0 4 7 [(0, .ref (ad 30 0)), (1, .int v1), (2, .int v2)] [] S) (v1 : Int32) (v2 : Int32) (v3 : Int32) (S : HS) (h : f_X9_sorts_77 cs N K7 v1 v2 v3 S = some (r, Z)) : GW p l e rm_X9_sorts s m args below meth c (QM below args s D cy cs ad (none) Z) D cy cs ad 0 0 4 77 [(0, .ref (ad 30 0)), (1, .int v1), (2, .int v2), (3, .int v3)] [] S := by
  have hA := B.2.2.2.2.2.2.1
  have hZ := B.2.2.2.2.2.2.2.2.2.2
  unfold f_X9_sorts_77 at h
  refine g_aload_n B dX9_sorts_77 0 rfl rfl ?_
  obtain ⟨m1, h⟩ := ck_e h
  refine gt_X9_35 B m1 kf_X9_78 dX9_sorts_78 ?_
  refine g_iload_n B dX9_sorts_81 3 rfl rfl ?_
  refine g_iload_n B dX9_sorts_82 2 rfl rfl ?_
  obtain ⟨m2, h⟩ := ck_e h
  obtain ⟨b3, h⟩ := ck_e h
  obtain ⟨S4, e5, h⟩ := lt_e h
  refine g_iast (n := 7) B m2 b3 (fun _ => rfl) e5 dX9_sorts_83 ?_
  refine g_aload_n B dX9_sorts_84 0 rfl rfl ?_
  refine g_dup B dX9_sorts_85 rfl ?_
  refine gt_X9_36 B m1 kf_X9_207 dX9_sorts_86 ?_
  refine g_iconst (v := (1 : Int32)) B dX9_sorts_89 (by decide) ?_
  refine g_iadd B dX9_sorts_90 ?_
  obtain ⟨S6, e7, h⟩ := lt_e h
  refine pt_X9_36 B m1 kf_X9_207 e7 dX9_sorts_91 ?_
  obtain ⟨x8, e9, h⟩ := lt_e h
  refine g_iinc (v := x8) (lv' := [(2, .int x8), (0, .ref (ad 30 0)), (1, .int v1), (3, .int v3)]) B dX9_sorts_94 (k := 2) rfl (by rw [e9]; rfl) (by decide) rfl ?_
  refine g_goto B 7 dX9_sorts_97 (by decide) ?_
  refine g_sub [1, 2, 0] rfl ?_
  exact hK7 _ _ _ h
def f_X9_sorts_31 (cs : List (Nat × Nat)) (N : Nat) (K7 : Int32 → Int32 → HS → Option (Unit × HS)) : Nat → Int32 → Int32 → Int32 → HS → Option (Unit × HS)
  | 0, _, _, _, _ => none
  | n + 1, v1, v2, v3, S =>
    if v3 ≤ 0 then (
      f_X9_sorts_77 cs N K7 v1 v2 v3 S)
    else (
      ck (mc cs 30 0) (
      ck (mc cs 31 20) (
      ck (inb (v3 - (1 : Int32)) 7) (
      ck (mc cs 31 8) (
      ck (inb (gi S 31 20 (v3 - (1 : Int32)).toNatClampNeg) 7) (
      ck (inb v2 7) (
      if (gi S 31 8 (gi S 31 20 (v3 - (1 : Int32)).toNatClampNeg).toNatClampNeg) ≤ (gi S 31 8 v2.toNatClampNeg) then (
        f_X9_sorts_77 cs N K7 v1 v2 v3 S)
      else (
        ck (inb (v3 - (1 : Int32)) 7) (
        ck (inb v3 7) (
        lt_ (ui S 31 20 v3.toNatClampNeg (gi S 31 20 (v3 - (1 : Int32)).toNatClampNeg)) (fun S11 =>
        lt_ (v3 + (-1 : Int32)) (fun x13 =>
        f_X9_sorts_31 cs N K7 n v1 v2 x13 S11))))))))))))
set_option maxHeartbeats 4000000 in
set_option maxRecDepth 100000 in
theorem b_X9_sorts_31 {p : Program} {l : Launch} {e : Env} {s : State} {m : MethodId} {args : Array Value} {below : List Frame} {meth : Method} {c : Code} {D : va_G} {cy : Nat → ClassId} {cs : List (Nat × Nat)} {ad : Nat → Nat → Nat} {Zp : State → Prop} {r : Unit} {Z : HS} (B : Bd p s m args meth c D cy cs ad Zp cX9_sorts 4 RX9 none) (N : Nat) (K7 : Int32 → Int32 → HS → Option (Unit × HS)) (hK7 : ∀ (v1 : Int32) (v2 : Int32) (S : HS), K7 v1 v2 S = some (r, Z) → GW p l e rm_X9_sorts s m args below meth c (QM below args s D cy cs ad (none) Z) D cy cs ad 0 0 4 7 [(0, .ref (ad 30 0)), (1, .int v1), (2, .int v2)] [] S) : ∀ (n : Nat) (v1 : Int32) (v2 : Int32) (v3 : Int32) (S : HS), f_X9_sorts_31 cs N K7 n v1 v2 v3 S = some (r, Z) → GW p l e rm_X9_sorts s m args below meth c (QM below args s D cy cs ad (none) Z) D cy cs ad 0 0 4 31 [(0, .ref (ad 30 0)), (1, .int v1), (2, .int v2), (3, .int v3)] [] S := by
  have hA := B.2.2.2.2.2.2.1
  have hZ := B.2.2.2.2.2.2.2.2.2.2
  intro n
  induction n with
  | zero => intro v1 v2 v3 S h; cases h
  | succ n ih =>
    intro v1 v2 v3 S h
    rw [f_X9_sorts_31] at h
    refine g_iload_n B dX9_sorts_31 3 rfl rfl ?_
    refine g_if_le B 77 dX9_sorts_32 (by decide) (fun q1 => ?_) (fun q1 => ?_)
    · have h := if_t h q1
      exact b_X9_sorts_77 B N _ hK7 _ _ _ _ h
    · have h := if_f h q1
      refine g_aload_n B dX9_sorts_35 0 rfl rfl ?_
      obtain ⟨m2, h⟩ := ck_e h
      refine gt_X9_11 B m2 kf_X9_34 dX9_sorts_36 ?_
      refine g_aload_n B dX9_sorts_39 0 rfl rfl ?_
      refine gt_X9_35 B m2 kf_X9_78 dX9_sorts_40 ?_
      refine g_iload_n B dX9_sorts_43 3 rfl rfl ?_
      refine g_iconst (v := (1 : Int32)) B dX9_sorts_44 (by decide) ?_
      refine g_isub B dX9_sorts_45 ?_
      obtain ⟨m3, h⟩ := ck_e h
      obtain ⟨b4, h⟩ := ck_e h
      refine g_iald (n := 7) B m3 (fun _ => rfl) b4 dX9_sorts_46 ?_
      obtain ⟨m5, h⟩ := ck_e h
      obtain ⟨b6, h⟩ := ck_e h
      refine g_iald (n := 7) B m5 (fun _ => rfl) b6 dX9_sorts_47 ?_
      refine g_aload_n B dX9_sorts_48 0 rfl rfl ?_
      refine gt_X9_11 B m2 kf_X9_34 dX9_sorts_49 ?_
      refine g_iload_n B dX9_sorts_52 2 rfl rfl ?_
      obtain ⟨b7, h⟩ := ck_e h
      refine g_iald (n := 7) B m5 (fun _ => rfl) b7 dX9_sorts_53 ?_
      refine g_icmp_le B 77 dX9_sorts_54 (by decide) (fun q8 => ?_) (fun q8 => ?_)
      · have h := if_t h q8
        exact b_X9_sorts_77 B N _ hK7 _ _ _ _ h
      · have h := if_f h q8
        refine g_aload_n B dX9_sorts_57 0 rfl rfl ?_
        refine gt_X9_35 B m2 kf_X9_78 dX9_sorts_58 ?_
        refine g_iload_n B dX9_sorts_61 3 rfl rfl ?_
        refine g_aload_n B dX9_sorts_62 0 rfl rfl ?_
        refine gt_X9_35 B m2 kf_X9_78 dX9_sorts_63 ?_
        refine g_iload_n B dX9_sorts_66 3 rfl rfl ?_
        refine g_iconst (v := (1 : Int32)) B dX9_sorts_67 (by decide) ?_
        refine g_isub B dX9_sorts_68 ?_
        obtain ⟨b9, h⟩ := ck_e h
        refine g_iald (n := 7) B m3 (fun _ => rfl) b9 dX9_sorts_69 ?_
        obtain ⟨b10, h⟩ := ck_e h
        obtain ⟨S11, e12, h⟩ := lt_e h
        refine g_iast (n := 7) B m3 b10 (fun _ => rfl) e12 dX9_sorts_70 ?_
        obtain ⟨x13, e14, h⟩ := lt_e h
        refine g_iinc (v := x13) (lv' := [(3, .int x13), (0, .ref (ad 30 0)), (1, .int v1), (2, .int v2)]) B dX9_sorts_71 (k := 3) rfl (by rw [e14]; rfl) (by decide) rfl ?_
        refine g_goto B 31 dX9_sorts_74 (by decide) ?_
        refine g_sub [1, 2, 3, 0] rfl ?_
        exact ih _ _ _ _ h
def f_X9_sorts_7 (cs : List (Nat × Nat)) (N : Nat)  : Nat → Int32 → Int32 → HS → Option (Unit × HS)
  | 0, _, _, _ => none
  | n + 1, v1, v2, S =>
    ck (mc cs 30 0) (
    if (gi S 30 0 1) ≤ v2 then (
      some ((), S))
    else (
      if ((v1 >>> (v2 &&& 31)) &&& (1 : Int32)) = 0 then (
        lt_ (v2 + (1 : Int32)) (fun x6 =>
        f_X9_sorts_7 cs N n v1 x6 S))
      else (
        lt_ ((gi S 30 0 36)) (fun x4 =>
        f_X9_sorts_31 cs N (f_X9_sorts_7 cs N n) N v1 v2 x4 S))))
set_option maxHeartbeats 4000000 in
set_option maxRecDepth 100000 in
theorem b_X9_sorts_7 {p : Program} {l : Launch} {e : Env} {s : State} {m : MethodId} {args : Array Value} {below : List Frame} {meth : Method} {c : Code} {D : va_G} {cy : Nat → ClassId} {cs : List (Nat × Nat)} {ad : Nat → Nat → Nat} {Zp : State → Prop} {r : Unit} {Z : HS} (B : Bd p s m args meth c D cy cs ad Zp cX9_sorts 4 RX9 none) (N : Nat)  : ∀ (n : Nat) (v1 : Int32) (v2 : Int32) (S : HS), f_X9_sorts_7 cs N n v1 v2 S = some (r, Z) → GW p l e rm_X9_sorts s m args below meth c (QM below args s D cy cs ad (none) Z) D cy cs ad 0 0 4 7 [(0, .ref (ad 30 0)), (1, .int v1), (2, .int v2)] [] S := by
  have hA := B.2.2.2.2.2.2.1
  have hZ := B.2.2.2.2.2.2.2.2.2.2
  intro n
  induction n with
  | zero => intro v1 v2 S h; cases h
  | succ n ih =>
    intro v1 v2 S h
    rw [f_X9_sorts_7] at h
    refine g_iload_n B dX9_sorts_7 2 rfl rfl ?_
    refine g_aload_n B dX9_sorts_8 0 rfl rfl ?_
    obtain ⟨m1, h⟩ := ck_e h
    refine gt_X9_1 B m1 kf_X9_111 dX9_sorts_9 ?_
    refine g_icmp_ge B 100 dX9_sorts_12 (by decide) (fun q2 => ?_) (fun q2 => ?_)
    · have h := if_t h q2
      obtain ⟨-, rfl⟩ := some_e h
      exact g_vret B dX9_sorts_100
    · have h := if_f h q2
      refine g_iload_n B dX9_sorts_15 1 rfl rfl ?_
      refine g_iload_n B dX9_sorts_16 2 rfl rfl ?_
      refine g_ishr B dX9_sorts_17 ?_
      refine g_iconst (v := (1 : Int32)) B dX9_sorts_18 (by decide) ?_
      refine g_iand B dX9_sorts_19 ?_
      refine g_if_ne B 26 dX9_sorts_20 (by decide) (fun q3 => ?_) (fun q3 => ?_)
      · have h := if_f h q3
        refine g_aload_n B dX9_sorts_26 0 rfl rfl ?_
        refine gt_X9_36 B m1 kf_X9_207 dX9_sorts_27 ?_
        obtain ⟨x4, e5, h⟩ := lt_e h
        refine g_topi e5 ?_
        refine g_istore_n (lv' := [(3, .int x4), (0, .ref (ad 30 0)), (1, .int v1), (2, .int v2)]) B dX9_sorts_30 rfl (by decide) rfl ?_
        refine g_sub [1, 2, 3, 0] rfl ?_
        exact b_X9_sorts_31 B N _ ih N _ _ _ _ h
      · have h := if_t h q3
        refine g_goto B 94 dX9_sorts_23 (by decide) ?_
        obtain ⟨x6, e7, h⟩ := lt_e h
        refine g_iinc (v := x6) (lv' := [(2, .int x6), (0, .ref (ad 30 0)), (1, .int v1)]) B dX9_sorts_94 (k := 2) rfl (by rw [e7]; rfl) (by decide) rfl ?_
        refine g_goto B 7 dX9_sorts_97 (by decide) ?_
        refine g_sub [1, 2, 0] rfl ?_
        exact ih _ _ _ h
def f_X9_sorts (cs : List (Nat × Nat)) (N : Nat) (a1 : Int32) (S : HS) : Option (Unit × HS) :=
  ck (mc cs 30 0) (
  lt_ (ui S 30 0 36 (0 : Int32)) (fun S2 =>
  f_X9_sorts_7 cs N N a1 (0 : Int32) S2))
set_option maxHeartbeats 4000000 in
set_option maxRecDepth 100000 in
theorem c_X9_sorts {l : Launch} {D : va_G} {cy : Nat → ClassId} {cs : List (Nat × Nat)} {ad : Nat → Nat → Nat} {Zp : State → Prop} (hA : AdOk cs ad) (hZ : ZOk cs ad Zp) (N : Nat) (a1 : Int32) (S : HS) (r : Unit) (Z : HS) (h : f_X9_sorts cs N a1 S = some (r, Z)) : Ctr Zp l yX9_sorts cX9_sorts 4 none rm_X9_sorts D cy cs ad [.ref (ad 30 0), .int a1] S (none) Z := by
  unfold f_X9_sorts at h
  refine Ctr.of hA hZ RX9 (plainFor_of_name (by decide)) rfl [(0, .ref (ad 30 0)), (1, .int a1)] rfl (Nat.le_of_ble_eq_true rfl) (fun p e s m below meth c B => ?_)
  refine g_aload_n B dX9_sorts_0 0 rfl rfl ?_
  refine g_iconst (v := (0 : Int32)) B dX9_sorts_1 (by decide) ?_
  obtain ⟨m1, h⟩ := ck_e h
  obtain ⟨S2, e3, h⟩ := lt_e h
  refine pt_X9_36 B m1 kf_X9_207 e3 dX9_sorts_2 ?_
  refine g_iconst (v := (0 : Int32)) B dX9_sorts_5 (by decide) ?_
  refine g_istore_n (lv' := [(2, .int (0 : Int32)), (0, .ref (ad 30 0)), (1, .int a1)]) B dX9_sorts_6 rfl (by decide) rfl ?_
  refine g_sub [1, 2, 0] rfl ?_
  exact b_X9_sorts_7 B N N _ _ _ h

def rm_X9_does : Room := { frames := 1, cells := 0, slots := 0, locals := 23 }
def f_X9_does_194 (cs : List (Nat × Nat)) (N : Nat) (K32 : Int32 → Int32 → Int32 → Int32 → Int32 → HS → Option (Int32 × HS)) : Nat → Int32 → Int32 → Int32 → Int32 → Int32 → Int32 → Int32 → HS → Option (Int32 × HS)
  | 0, _, _, _, _, _, _, _, _ => none
  | n + 1, v1, v3, v4, v5, v6, v7, v10, S =>
    if v4 < v10 then (
      lt_ (v6 + (1 : Int32)) (fun x2 =>
      K32 v1 v3 v4 v5 x2 S))
    else (
      ck (mc cs 30 0) (
      ck (mc cs 31 6) (
      ck (inb v7 7) (
      ob (f_X9_isAllowed cs N v1 (gi S 31 6 v7.toNatClampNeg) v10 S) (fun r7 S8 =>
      if r7 = 0 then (
        some ((0 : Int32), S8))
      else (
        lt_ (v10 + (1 : Int32)) (fun x11 =>
        f_X9_does_194 cs N K32 n v1 v3 v4 v5 v6 v7 x11 S8)))))))
set_option maxHeartbeats 4000000 in
set_option maxRecDepth 100000 in
theorem b_X9_does_194 {p : Program} {l : Launch} {e : Env} {s : State} {m : MethodId} {args : Array Value} {below : List Frame} {meth : Method} {c : Code} {D : va_G} {cy : Nat → ClassId} {cs : List (Nat × Nat)} {ad : Nat → Nat → Nat} {Zp : State → Prop} {r : Int32} {Z : HS} (B : Bd p s m args meth c D cy cs ad Zp cX9_does 11 RX9 (some .boolean)) (N : Nat) (K32 : Int32 → Int32 → Int32 → Int32 → Int32 → HS → Option (Int32 × HS)) (hK32 : ∀ (v1 : Int32) (v3 : Int32) (v4 : Int32) (v5 : Int32) (v6 : Int32) (S : HS), K32 v1 v3 v4 v5 v6 S = some (r, Z) → GW p l e rm_X9_does s m args below meth c (QM below args s D cy cs ad (some (.int r)) Z) D cy cs ad 0 0 11 32 [(0, .ref (ad 30 0)), (1, .int v1), (3, .int v3), (4, .int v4), (5, .int v5), (6, .int v6)] [] S) : ∀ (n : Nat) (v1 : Int32) (v3 : Int32) (v4 : Int32) (v5 : Int32) (v6 : Int32) (v7 : Int32) (v10 : Int32) (S : HS), f_X9_does_194 cs N K32 n v1 v3 v4 v5 v6 v7 v10 S = some (r, Z) → GW p l e rm_X9_does s m args below meth c (QM below args s D cy cs ad (some (.int r)) Z) D cy cs ad 0 0 11 194 [(0, .ref (ad 30 0)), (1, .int v1), (3, .int v3), (4, .int v4), (5, .int v5), (6, .int v6), (7, .int v7), (10, .int v10)] [] S := by
  have hA := B.2.2.2.2.2.2.1
  have hZ := B.2.2.2.2.2.2.2.2.2.2
  intro n
  induction n with
  | zero => intro v1 v3 v4 v5 v6 v7 v10 S h; cases h
  | succ n ih =>
    intro v1 v3 v4 v5 v6 v7 v10 S h
    rw [f_X9_does_194] at h
    refine g_iload B dX9_does_194 7 rfl ?_
    refine g_iload B dX9_does_196 3 rfl ?_
    refine g_icmp_gt B 226 dX9_does_198 (by decide) (fun q1 => ?_) (fun q1 => ?_)
    · have h := if_t h q1
      obtain ⟨x2, e3, h⟩ := lt_e h
      refine g_iinc (v := x2) (lv' := [(6, .int x2), (0, .ref (ad 30 0)), (1, .int v1), (3, .int v3), (4, .int v4), (5, .int v5), (7, .int v7), (10, .int v10)]) B dX9_does_226 (k := 5) rfl (by rw [e3]; rfl) (by decide) rfl ?_
      refine g_goto B 32 dX9_does_229 (by decide) ?_
      refine g_sub [1, 2, 3, 4, 5, 0] rfl ?_
      exact hK32 _ _ _ _ _ _ h
    · have h := if_f h q1
      refine g_aload_n B dX9_does_201 0 rfl rfl ?_
      refine g_iload_n B dX9_does_202 1 rfl rfl ?_
      refine g_aload_n B dX9_does_203 0 rfl rfl ?_
      obtain ⟨m4, h⟩ := ck_e h
      refine gt_X9_9 B m4 kf_X9_28 dX9_does_204 ?_
      refine g_iload B dX9_does_207 6 rfl ?_
      obtain ⟨m5, h⟩ := ck_e h
      obtain ⟨b6, h⟩ := ck_e h
      refine g_iald (n := 7) B m5 (fun _ => rfl) b6 dX9_does_209 ?_
      refine g_iload B dX9_does_210 7 rfl ?_
      obtain ⟨r7, S8, e9, h⟩ := ob_e h
      refine g_cvi (rest := []) B (c_X9_isAllowed hA hZ N _ _ _ _ _ _ e9) mf_X9_isAllowed km_X9_204 ⟨by decide, by decide⟩ ⟨rfl, rfl⟩ m4 rfl rfl rfl rfl (Nat.le_of_ble_eq_true rfl) ⟨Nat.zero_le _, Nat.zero_le _⟩ dX9_does_212 ?_
      refine g_if_ne B 220 dX9_does_215 (by decide) (fun q10 => ?_) (fun q10 => ?_)
      · have h := if_f h q10
        obtain ⟨x11, e12, h⟩ := lt_e h
        refine g_iinc (v := x11) (lv' := [(10, .int x11), (0, .ref (ad 30 0)), (1, .int v1), (3, .int v3), (4, .int v4), (5, .int v5), (6, .int v6), (7, .int v7)]) B dX9_does_220 (k := 7) rfl (by rw [e12]; rfl) (by decide) rfl ?_
        refine g_goto B 194 dX9_does_223 (by decide) ?_
        refine g_sub [1, 2, 3, 4, 5, 6, 7, 0] rfl ?_
        exact ih _ _ _ _ _ _ _ _ h
      · have h := if_t h q10
        refine g_iconst (v := (0 : Int32)) B dX9_does_218 (by decide) ?_
        obtain ⟨rfl, rfl⟩ := some_e h
        exact g_zret B (by decide) dX9_does_219
def f_X9_does_117 (cs : List (Nat × Nat)) (N : Nat) (K32 : Int32 → Int32 → Int32 → Int32 → Int32 → HS → Option (Int32 × HS)) : Nat → Int32 → Int32 → Int32 → Int32 → Int32 → Int32 → Int32 → Int32 → HS → Option (Int32 × HS)
  | 0, _, _, _, _, _, _, _, _, _ => none
  | n + 1, v1, v3, v4, v5, v6, v7, v8, v9, S =>
    if v9 ≤ v5 then (
      lt_ ((v5 - v9)) (fun x2 =>
      ck (mc cs 30 0) (
      ck (mc cs 31 21) (
      ck (inb v7 7) (
      lt_ (ui S 31 21 v7.toNatClampNeg v4) (fun S7 =>
      ck (mc cs 31 8) (
      ck (inb v7 7) (
      if v4 ≤ (gi S7 31 8 v7.toNatClampNeg) then (
        f_X9_does_194 cs N K32 N v1 v3 v4 x2 v6 v7 v8 S7)
      else (
        some ((0 : Int32), S7))))))))))
    else (
      if v4 = (51 : Int32) then (
        some ((0 : Int32), S))
      else (
        lt_ ((v9 - v5)) (fun x13 =>
        lt_ (v4 + (1 : Int32)) (fun x15 =>
        ck (mc cs 30 0) (
        ck (mc cs 31 0) (
        ck (inb (((52 : Int32) * v1) + x15) 208) (
        lt_ ((gi S 31 0 (((52 : Int32) * v1) + x15).toNatClampNeg)) (fun x20 =>
        f_X9_does_117 cs N K32 n v1 v3 x15 x20 v6 v7 v8 x13 S))))))))
set_option maxHeartbeats 4000000 in
set_option maxRecDepth 100000 in
theorem b_X9_does_117 {p : Program} {l : Launch} {e : Env} {s : State} {m : MethodId} {args : Array Value} {below : List Frame} {meth : Method} {c : Code} {D : va_G} {cy : Nat → ClassId} {cs : List (Nat × Nat)} {ad : Nat → Nat → Nat} {Zp : State → Prop} {r : Int32} {Z : HS} (B : Bd p s m args meth c D cy cs ad Zp cX9_does 11 RX9 (some .boolean)) (N : Nat) (K32 : Int32 → Int32 → Int32 → Int32 → Int32 → HS → Option (Int32 × HS)) (hK32 : ∀ (v1 : Int32) (v3 : Int32) (v4 : Int32) (v5 : Int32) (v6 : Int32) (S : HS), K32 v1 v3 v4 v5 v6 S = some (r, Z) → GW p l e rm_X9_does s m args below meth c (QM below args s D cy cs ad (some (.int r)) Z) D cy cs ad 0 0 11 32 [(0, .ref (ad 30 0)), (1, .int v1), (3, .int v3), (4, .int v4), (5, .int v5), (6, .int v6)] [] S) : ∀ (n : Nat) (v1 : Int32) (v3 : Int32) (v4 : Int32) (v5 : Int32) (v6 : Int32) (v7 : Int32) (v8 : Int32) (v9 : Int32) (S : HS), f_X9_does_117 cs N K32 n v1 v3 v4 v5 v6 v7 v8 v9 S = some (r, Z) → GW p l e rm_X9_does s m args below meth c (QM below args s D cy cs ad (some (.int r)) Z) D cy cs ad 0 0 11 117 [(0, .ref (ad 30 0)), (1, .int v1), (3, .int v3), (4, .int v4), (5, .int v5), (6, .int v6), (7, .int v7), (8, .int v8), (9, .int v9)] [] S := by
  have hA := B.2.2.2.2.2.2.1
  have hZ := B.2.2.2.2.2.2.2.2.2.2
  intro n
  induction n with
  | zero => intro v1 v3 v4 v5 v6 v7 v8 v9 S h; cases h
  | succ n ih =>
    intro v1 v3 v4 v5 v6 v7 v8 v9 S h
    rw [f_X9_does_117] at h
    refine g_iload B dX9_does_117 8 rfl ?_
    refine g_iload B dX9_does_119 4 rfl ?_
    refine g_icmp_le B 160 dX9_does_121 (by decide) (fun q1 => ?_) (fun q1 => ?_)
    · have h := if_t h q1
      refine g_iload B dX9_does_160 4 rfl ?_
      refine g_iload B dX9_does_162 8 rfl ?_
      refine g_isub B dX9_does_164 ?_
      obtain ⟨x2, e3, h⟩ := lt_e h
      refine g_topi e3 ?_
      refine g_istore (lv' := [(5, .int x2), (0, .ref (ad 30 0)), (1, .int v1), (3, .int v3), (4, .int v4), (6, .int v6), (7, .int v7), (8, .int v8), (9, .int v9)]) B dX9_does_165 (by decide) rfl ?_
      refine g_aload_n B dX9_does_167 1 rfl rfl ?_
      obtain ⟨m4, h⟩ := ck_e h
      refine gt_X9_37 B m4 kf_X9_81 dX9_does_168 ?_
      refine g_iload B dX9_does_171 6 rfl ?_
      refine g_iload B dX9_does_173 4 rfl ?_
      obtain ⟨m5, h⟩ := ck_e h
      obtain ⟨b6, h⟩ := ck_e h
      obtain ⟨S7, e8, h⟩ := lt_e h
      refine g_iast (n := 7) B m5 b6 (fun _ => rfl) e8 dX9_does_175 ?_
      refine g_iload B dX9_does_176 4 rfl ?_
      refine g_aload_n B dX9_does_178 1 rfl rfl ?_
      refine gt_X9_11 B m4 kf_X9_34 dX9_does_179 ?_
      refine g_iload B dX9_does_182 6 rfl ?_
      obtain ⟨m9, h⟩ := ck_e h
      obtain ⟨b10, h⟩ := ck_e h
      refine g_iald (n := 7) B m9 (fun _ => rfl) b10 dX9_does_184 ?_
      refine g_icmp_le B 190 dX9_does_185 (by decide) (fun q11 => ?_) (fun q11 => ?_)
      · have h := if_t h q11
        refine g_iload B dX9_does_190 7 rfl ?_
        refine g_istore (lv' := [(10, .int v8), (5, .int x2), (0, .ref (ad 30 0)), (1, .int v1), (3, .int v3), (4, .int v4), (6, .int v6), (7, .int v7), (8, .int v8), (9, .int v9)]) B dX9_does_192 (by decide) rfl ?_
        refine g_sub [2, 3, 4, 5, 1, 6, 7, 0] rfl ?_
        exact b_X9_does_194 B N _ hK32 N _ _ _ _ _ _ _ _ h
      · have h := if_f h q11
        refine g_iconst (v := (0 : Int32)) B dX9_does_188 (by decide) ?_
        obtain ⟨rfl, rfl⟩ := some_e h
        exact g_zret B (by decide) dX9_does_189
    · have h := if_f h q1
      refine g_iload B dX9_does_124 3 rfl ?_
      refine g_bipush (v := (51 : Int32)) B dX9_does_126 (by decide) ?_
      refine g_icmp_ne B 133 dX9_does_128 (by decide) (fun q12 => ?_) (fun q12 => ?_)
      · have h := if_f h q12
        refine g_iload B dX9_does_133 8 rfl ?_
        refine g_iload B dX9_does_135 4 rfl ?_
        refine g_isub B dX9_does_137 ?_
        obtain ⟨x13, e14, h⟩ := lt_e h
        refine g_topi e14 ?_
        refine g_istore (lv' := [(9, .int x13), (0, .ref (ad 30 0)), (1, .int v1), (3, .int v3), (4, .int v4), (5, .int v5), (6, .int v6), (7, .int v7), (8, .int v8)]) B dX9_does_138 (by decide) rfl ?_
        obtain ⟨x15, e16, h⟩ := lt_e h
        refine g_iinc (v := x15) (lv' := [(4, .int x15), (9, .int x13), (0, .ref (ad 30 0)), (1, .int v1), (3, .int v3), (5, .int v5), (6, .int v6), (7, .int v7), (8, .int v8)]) B dX9_does_140 (k := 4) rfl (by rw [e16]; rfl) (by decide) rfl ?_
        refine g_aload_n B dX9_does_143 2 rfl rfl ?_
        obtain ⟨m17, h⟩ := ck_e h
        refine gt_X9_3 B m17 kf_X9_7 dX9_does_144 ?_
        refine g_bipush (v := (52 : Int32)) B dX9_does_147 (by decide) ?_
        refine g_iload_n B dX9_does_149 3 rfl rfl ?_
        refine g_imul B dX9_does_150 ?_
        refine g_iload B dX9_does_151 0 rfl ?_
        refine g_iadd B dX9_does_153 ?_
        obtain ⟨m18, h⟩ := ck_e h
        obtain ⟨b19, h⟩ := ck_e h
        refine g_iald (n := 208) B m18 (fun _ => rfl) b19 dX9_does_154 ?_
        obtain ⟨x20, e21, h⟩ := lt_e h
        refine g_topi e21 ?_
        refine g_istore (lv' := [(5, .int x20), (4, .int x15), (9, .int x13), (0, .ref (ad 30 0)), (1, .int v1), (3, .int v3), (6, .int v6), (7, .int v7), (8, .int v8)]) B dX9_does_155 (by decide) rfl ?_
        refine g_goto B 117 dX9_does_157 (by decide) ?_
        refine g_sub [3, 4, 5, 1, 0, 6, 7, 8, 2] rfl ?_
        exact ih _ _ _ _ _ _ _ _ _ h
      · have h := if_t h q12
        refine g_iconst (v := (0 : Int32)) B dX9_does_131 (by decide) ?_
        obtain ⟨rfl, rfl⟩ := some_e h
        exact g_zret B (by decide) dX9_does_132
def f_X9_does_104 (cs : List (Nat × Nat)) (N : Nat) (K32 : Int32 → Int32 → Int32 → Int32 → Int32 → HS → Option (Int32 × HS)) (v1 : Int32) (v3 : Int32) (v4 : Int32) (v5 : Int32) (v6 : Int32) (v7 : Int32) (S : HS) : Option (Int32 × HS) :=
  ck (mc cs 30 0) (
  ob (f_X9_left cs N v1 v7 S) (fun r2 S3 =>
  f_X9_does_117 cs N K32 N v1 v3 v4 v5 v6 v7 v4 r2 S3))
set_option maxHeartbeats 4000000 in
set_option maxRecDepth 100000 in
theorem b_X9_does_104 {p : Program} {l : Launch} {e : Env} {s : State} {m : MethodId} {args : Array Value} {below : List Frame} {meth : Method} {c : Code} {D : va_G} {cy : Nat → ClassId} {cs : List (Nat × Nat)} {ad : Nat → Nat → Nat} {Zp : State → Prop} {r : Int32} {Z : HS} (B : Bd p s m args meth c D cy cs ad Zp cX9_does 11 RX9 (some .boolean)) (N : Nat) (K32 : Int32 → Int32 → Int32 → Int32 → Int32 → HS → Option (Int32 × HS)) (hK32 : ∀ (v1 : Int32) (v3 : Int32) (v4 : Int32) (v5 : Int32) (v6 : Int32) (S : HS), K32 v1 v3 v4 v5 v6 S = some (r, Z) → GW p l e rm_X9_does s m args below meth c (QM below args s D cy cs ad (some (.int r)) Z) D cy cs ad 0 0 11 32 [(0, .ref (ad 30 0)), (1, .int v1), (3, .int v3), (4, .int v4), (5, .int v5), (6, .int v6)] [] S) (v1 : Int32) (v3 : Int32) (v4 : Int32) (v5 : Int32) (v6 : Int32) (v7 : Int32) (S : HS) (h : f_X9_does_104 cs N K32 v1 v3 v4 v5 v6 v7 S = some (r, Z)) : GW p l e rm_X9_does s m args below meth c (QM below args s D cy cs ad (some (.int r)) Z) D cy cs ad 0 0 11 104 [(0, .ref (ad 30 0)), (1, .int v1), (3, .int v3), (4, .int v4), (5, .int v5), (6, .int v6), (7, .int v7)] [] S := by
  have hA := B.2.2.2.2.2.2.1
  have hZ := B.2.2.2.2.2.2.2.2.2.2
  unfold f_X9_does_104 at h
  refine g_iload B dX9_does_104 3 rfl ?_
  refine g_istore (lv' := [(8, .int v4), (0, .ref (ad 30 0)), (1, .int v1), (3, .int v3), (4, .int v4), (5, .int v5), (6, .int v6), (7, .int v7)]) B dX9_does_106 (by decide) rfl ?_
  refine g_aload_n B dX9_does_108 1 rfl rfl ?_
  refine g_iload_n B dX9_does_109 2 rfl rfl ?_
  refine g_iload B dX9_does_110 7 rfl ?_
  obtain ⟨m1, h⟩ := ck_e h
  obtain ⟨r2, S3, e4, h⟩ := ob_e h
  refine g_cvi (rest := []) B (c_X9_left hA hZ N _ _ _ _ _ e4) mf_X9_left km_X9_213 ⟨by decide, by decide⟩ ⟨rfl, rfl⟩ m1 rfl rfl rfl rfl (Nat.le_of_ble_eq_true rfl) ⟨Nat.zero_le _, Nat.zero_le _⟩ dX9_does_112 ?_
  refine g_istore (lv' := [(9, .int r2), (8, .int v4), (0, .ref (ad 30 0)), (1, .int v1), (3, .int v3), (4, .int v4), (5, .int v5), (6, .int v6), (7, .int v7)]) B dX9_does_115 (by decide) rfl ?_
  refine g_sub [2, 3, 4, 5, 6, 7, 8, 1, 0] rfl ?_
  exact b_X9_does_117 B N _ hK32 N _ _ _ _ _ _ _ _ _ h
def f_X9_does_72 (cs : List (Nat × Nat)) (N : Nat) (K32 : Int32 → Int32 → Int32 → Int32 → Int32 → HS → Option (Int32 × HS)) : Nat → Int32 → Int32 → Int32 → Int32 → Int32 → Int32 → HS → Option (Int32 × HS)
  | 0, _, _, _, _, _, _, _ => none
  | n + 1, v1, v3, v4, v5, v6, v7, S =>
    if v5 = 0 then (
      if (51 : Int32) ≤ v4 then (
        f_X9_does_104 cs N K32 v1 v3 v4 v5 v6 v7 S)
      else (
        lt_ (v4 + (1 : Int32)) (fun x3 =>
        ck (mc cs 30 0) (
        ck (mc cs 31 0) (
        ck (inb (((52 : Int32) * v1) + x3) 208) (
        lt_ ((gi S 31 0 (((52 : Int32) * v1) + x3).toNatClampNeg)) (fun x8 =>
        f_X9_does_72 cs N K32 n v1 v3 x3 x8 v6 v7 S)))))))
    else (
      f_X9_does_104 cs N K32 v1 v3 v4 v5 v6 v7 S)
set_option maxHeartbeats 4000000 in
set_option maxRecDepth 100000 in
theorem b_X9_does_72 {p : Program} {l : Launch} {e : Env} {s : State} {m : MethodId} {args : Array Value} {below : List Frame} {meth : Method} {c : Code} {D : va_G} {cy : Nat → ClassId} {cs : List (Nat × Nat)} {ad : Nat → Nat → Nat} {Zp : State → Prop} {r : Int32} {Z : HS} (B : Bd p s m args meth c D cy cs ad Zp cX9_does 11 RX9 (some .boolean)) (N : Nat) (K32 : Int32 → Int32 → Int32 → Int32 → Int32 → HS → Option (Int32 × HS)) (hK32 : ∀ (v1 : Int32) (v3 : Int32) (v4 : Int32) (v5 : Int32) (v6 : Int32) (S : HS), K32 v1 v3 v4 v5 v6 S = some (r, Z) → GW p l e rm_X9_does s m args below meth c (QM below args s D cy cs ad (some (.int r)) Z) D cy cs ad 0 0 11 32 [(0, .ref (ad 30 0)), (1, .int v1), (3, .int v3), (4, .int v4), (5, .int v5), (6, .int v6)] [] S) : ∀ (n : Nat) (v1 : Int32) (v3 : Int32) (v4 : Int32) (v5 : Int32) (v6 : Int32) (v7 : Int32) (S : HS), f_X9_does_72 cs N K32 n v1 v3 v4 v5 v6 v7 S = some (r, Z) → GW p l e rm_X9_does s m args below meth c (QM below args s D cy cs ad (some (.int r)) Z) D cy cs ad 0 0 11 72 [(0, .ref (ad 30 0)), (1, .int v1), (3, .int v3), (4, .int v4), (5, .int v5), (6, .int v6), (7, .int v7)] [] S := by
  have hA := B.2.2.2.2.2.2.1
  have hZ := B.2.2.2.2.2.2.2.2.2.2
  intro n
  induction n with
  | zero => intro v1 v3 v4 v5 v6 v7 S h; cases h
  | succ n ih =>
    intro v1 v3 v4 v5 v6 v7 S h
    rw [f_X9_does_72] at h
    refine g_iload B dX9_does_72 4 rfl ?_
    refine g_if_ne B 104 dX9_does_74 (by decide) (fun q1 => ?_) (fun q1 => ?_)
    · have h := if_f h q1
      exact b_X9_does_104 B N _ hK32 _ _ _ _ _ _ _ h
    · have h := if_t h q1
      refine g_iload B dX9_does_77 3 rfl ?_
      refine g_bipush (v := (51 : Int32)) B dX9_does_79 (by decide) ?_
      refine g_icmp_ge B 104 dX9_does_81 (by decide) (fun q2 => ?_) (fun q2 => ?_)
      · have h := if_t h q2
        exact b_X9_does_104 B N _ hK32 _ _ _ _ _ _ _ h
      · have h := if_f h q2
        obtain ⟨x3, e4, h⟩ := lt_e h
        refine g_iinc (v := x3) (lv' := [(4, .int x3), (0, .ref (ad 30 0)), (1, .int v1), (3, .int v3), (5, .int v5), (6, .int v6), (7, .int v7)]) B dX9_does_84 (k := 3) rfl (by rw [e4]; rfl) (by decide) rfl ?_
        refine g_aload_n B dX9_does_87 1 rfl rfl ?_
        obtain ⟨m5, h⟩ := ck_e h
        refine gt_X9_3 B m5 kf_X9_7 dX9_does_88 ?_
        refine g_bipush (v := (52 : Int32)) B dX9_does_91 (by decide) ?_
        refine g_iload_n B dX9_does_93 2 rfl rfl ?_
        refine g_imul B dX9_does_94 ?_
        refine g_iload B dX9_does_95 0 rfl ?_
        refine g_iadd B dX9_does_97 ?_
        obtain ⟨m6, h⟩ := ck_e h
        obtain ⟨b7, h⟩ := ck_e h
        refine g_iald (n := 208) B m6 (fun _ => rfl) b7 dX9_does_98 ?_
        obtain ⟨x8, e9, h⟩ := lt_e h
        refine g_topi e9 ?_
        refine g_istore (lv' := [(5, .int x8), (4, .int x3), (0, .ref (ad 30 0)), (1, .int v1), (3, .int v3), (6, .int v6), (7, .int v7)]) B dX9_does_99 (by decide) rfl ?_
        refine g_goto B 72 dX9_does_101 (by decide) ?_
        refine g_sub [2, 3, 4, 1, 0, 5, 6] rfl ?_
        exact ih _ _ _ _ _ _ _ h
def f_X9_does_32 (cs : List (Nat × Nat)) (N : Nat)  : Nat → Int32 → Int32 → Int32 → Int32 → Int32 → HS → Option (Int32 × HS)
  | 0, _, _, _, _, _, _ => none
  | n + 1, v1, v3, v4, v5, v6, S =>
    ck (mc cs 30 0) (
    if (gi S 30 0 36) ≤ v6 then (
      some ((1 : Int32), S))
    else (
      ck (mc cs 31 20) (
      ck (inb v6 7) (
      lt_ ((gi S 31 20 v6.toNatClampNeg)) (fun x5 =>
      ck (mc cs 31 12) (
      ck (inb x5 7) (
      lt_ ((v3 + (gi S 31 12 x5.toNatClampNeg))) (fun x9 =>
      ck (mc cs 31 1) (
      ck (inb v1 4) (
      if x9 ≤ (gi S 31 1 v1.toNatClampNeg) then (
        f_X9_does_72 cs N (f_X9_does_32 cs N n) N v1 x9 v4 v5 v6 x5 S)
      else (
        some ((0 : Int32), S))))))))))))
set_option maxHeartbeats 4000000 in
set_option maxRecDepth 100000 in
theorem b_X9_does_32 {p : Program} {l : Launch} {e : Env} {s : State} {m : MethodId} {args : Array Value} {below : List Frame} {meth : Method} {c : Code} {D : va_G} {cy : Nat → ClassId} {cs : List (Nat × Nat)} {ad : Nat → Nat → Nat} {Zp : State → Prop} {r : Int32} {Z : HS} (B : Bd p s m args meth c D cy cs ad Zp cX9_does 11 RX9 (some .boolean)) (N : Nat)  : ∀ (n : Nat) (v1 : Int32) (v3 : Int32) (v4 : Int32) (v5 : Int32) (v6 : Int32) (S : HS), f_X9_does_32 cs N n v1 v3 v4 v5 v6 S = some (r, Z) → GW p l e rm_X9_does s m args below meth c (QM below args s D cy cs ad (some (.int r)) Z) D cy cs ad 0 0 11 32 [(0, .ref (ad 30 0)), (1, .int v1), (3, .int v3), (4, .int v4), (5, .int v5), (6, .int v6)] [] S := by
  have hA := B.2.2.2.2.2.2.1
  have hZ := B.2.2.2.2.2.2.2.2.2.2
  intro n
  induction n with
  | zero => intro v1 v3 v4 v5 v6 S h; cases h
  | succ n ih =>
    intro v1 v3 v4 v5 v6 S h
    rw [f_X9_does_32] at h
    refine g_iload B dX9_does_32 5 rfl ?_
    refine g_aload_n B dX9_does_34 0 rfl rfl ?_
    obtain ⟨m1, h⟩ := ck_e h
    refine gt_X9_36 B m1 kf_X9_207 dX9_does_35 ?_
    refine g_icmp_ge B 232 dX9_does_38 (by decide) (fun q2 => ?_) (fun q2 => ?_)
    · have h := if_t h q2
      refine g_iconst (v := (1 : Int32)) B dX9_does_232 (by decide) ?_
      obtain ⟨rfl, rfl⟩ := some_e h
      exact g_zret B (by decide) dX9_does_233
    · have h := if_f h q2
      refine g_aload_n B dX9_does_41 0 rfl rfl ?_
      refine gt_X9_35 B m1 kf_X9_78 dX9_does_42 ?_
      refine g_iload B dX9_does_45 5 rfl ?_
      obtain ⟨m3, h⟩ := ck_e h
      obtain ⟨b4, h⟩ := ck_e h
      refine g_iald (n := 7) B m3 (fun _ => rfl) b4 dX9_does_47 ?_
      obtain ⟨x5, e6, h⟩ := lt_e h
      refine g_topi e6 ?_
      refine g_istore (lv' := [(7, .int x5), (0, .ref (ad 30 0)), (1, .int v1), (3, .int v3), (4, .int v4), (5, .int v5), (6, .int v6)]) B dX9_does_48 (by decide) rfl ?_
      refine g_iload_n B dX9_does_50 3 rfl rfl ?_
      refine g_aload_n B dX9_does_51 1 rfl rfl ?_
      refine gt_X9_15 B m1 kf_X9_46 dX9_does_52 ?_
      refine g_iload B dX9_does_55 0 rfl ?_
      obtain ⟨m7, h⟩ := ck_e h
      obtain ⟨b8, h⟩ := ck_e h
      refine g_iald (n := 7) B m7 (fun _ => rfl) b8 dX9_does_57 ?_
      refine g_iadd B dX9_does_58 ?_
      obtain ⟨x9, e10, h⟩ := lt_e h
      refine g_topi e10 ?_
      refine g_istore_n (lv' := [(3, .int x9), (7, .int x5), (0, .ref (ad 30 0)), (1, .int v1), (4, .int v4), (5, .int v5), (6, .int v6)]) B dX9_does_59 rfl (by decide) rfl ?_
      refine g_iload_n B dX9_does_60 0 rfl rfl ?_
      refine g_aload_n B dX9_does_61 2 rfl rfl ?_
      refine gt_X9_4 B m1 kf_X9_13 dX9_does_62 ?_
      refine g_iload_n B dX9_does_65 3 rfl rfl ?_
      obtain ⟨m11, h⟩ := ck_e h
      obtain ⟨b12, h⟩ := ck_e h
      refine g_iald (n := 4) B m11 (fun _ => rfl) b12 dX9_does_66 ?_
      refine g_icmp_le B 72 dX9_does_67 (by decide) (fun q13 => ?_) (fun q13 => ?_)
      · have h := if_t h q13
        refine g_sub [2, 3, 0, 4, 5, 6, 1] rfl ?_
        exact b_X9_does_72 B N _ ih N _ _ _ _ _ _ _ h
      · have h := if_f h q13
        refine g_iconst (v := (0 : Int32)) B dX9_does_70 (by decide) ?_
        obtain ⟨rfl, rfl⟩ := some_e h
        exact g_zret B (by decide) dX9_does_71
def f_X9_does (cs : List (Nat × Nat)) (N : Nat) (a1 : Int32) (a2 : Int32) (S : HS) : Option (Int32 × HS) :=
  ck (mc cs 30 0) (
  ob (f_X9_sorts cs N a2 S) (fun r2 S3 =>
  lt_ ((gi S3 30 0 0)) (fun x5 =>
  ck (mc cs 31 0) (
  ck (inb (((52 : Int32) * a1) + (gi S3 30 0 0)) 208) (
  lt_ ((gi S3 31 0 (((52 : Int32) * a1) + (gi S3 30 0 0)).toNatClampNeg)) (fun x9 =>
  f_X9_does_32 cs N N a1 (0 : Int32) x5 x9 (0 : Int32) S3))))))
set_option maxHeartbeats 4000000 in
set_option maxRecDepth 100000 in
theorem c_X9_does {l : Launch} {D : va_G} {cy : Nat → ClassId} {cs : List (Nat × Nat)} {ad : Nat → Nat → Nat} {Zp : State → Prop} (hA : AdOk cs ad) (hZ : ZOk cs ad Zp) (N : Nat) (a1 : Int32) (a2 : Int32) (S : HS) (r : Int32) (Z : HS) (h : f_X9_does cs N a1 a2 S = some (r, Z)) : Ctr Zp l yX9_does cX9_does 11 (some .boolean) rm_X9_does D cy cs ad [.ref (ad 30 0), .int a1, .int a2] S (some (.int r)) Z := by
  unfold f_X9_does at h
  refine Ctr.of hA hZ RX9 (plainFor_of_name (by decide)) rfl [(0, .ref (ad 30 0)), (1, .int a1), (2, .int a2)] rfl (Nat.le_of_ble_eq_true rfl) (fun p e s m below meth c B => ?_)
  refine g_aload_n B dX9_does_0 0 rfl rfl ?_
  refine g_iload_n B dX9_does_1 2 rfl rfl ?_
  obtain ⟨m1, h⟩ := ck_e h
  obtain ⟨r2, S3, e4, h⟩ := ob_e h
  refine g_cvv (rest := []) B (c_X9_sorts hA hZ N _ _ _ _ e4) mf_X9_sorts km_X9_210 ⟨by decide, by decide⟩ ⟨rfl, rfl⟩ m1 rfl rfl rfl rfl (Nat.le_of_ble_eq_true rfl) ⟨Nat.zero_le _, Nat.zero_le _⟩ dX9_does_2 ?_
  refine g_iconst (v := (0 : Int32)) B dX9_does_5 (by decide) ?_
  refine g_istore_n (lv' := [(3, .int (0 : Int32)), (0, .ref (ad 30 0)), (1, .int a1), (2, .int a2)]) B dX9_does_6 rfl (by decide) rfl ?_
  refine g_aload_n B dX9_does_7 1 rfl rfl ?_
  refine gt_X9_0 B m1 kf_X9_104 dX9_does_8 ?_
  obtain ⟨x5, e6, h⟩ := lt_e h
  refine g_topi e6 ?_
  refine g_istore (lv' := [(4, .int x5), (3, .int (0 : Int32)), (0, .ref (ad 30 0)), (1, .int a1), (2, .int a2)]) B dX9_does_11 (by decide) rfl ?_
  refine g_aload_n B dX9_does_13 2 rfl rfl ?_
  refine gt_X9_3 B m1 kf_X9_7 dX9_does_14 ?_
  refine g_bipush (v := (52 : Int32)) B dX9_does_17 (by decide) ?_
  refine g_iload_n B dX9_does_19 3 rfl rfl ?_
  refine g_imul B dX9_does_20 ?_
  refine g_aload_n B dX9_does_21 2 rfl rfl ?_
  refine gt_X9_0 B m1 kf_X9_104 dX9_does_22 ?_
  refine g_iadd B dX9_does_25 ?_
  obtain ⟨m7, h⟩ := ck_e h
  obtain ⟨b8, h⟩ := ck_e h
  refine g_iald (n := 208) B m7 (fun _ => rfl) b8 dX9_does_26 ?_
  obtain ⟨x9, e10, h⟩ := lt_e h
  refine g_topi e10 ?_
  refine g_istore (lv' := [(5, .int x9), (4, .int x5), (3, .int (0 : Int32)), (0, .ref (ad 30 0)), (1, .int a1), (2, .int a2)]) B dX9_does_27 (by decide) rfl ?_
  refine g_iconst (v := (0 : Int32)) B dX9_does_29 (by decide) ?_
  refine g_istore (lv' := [(6, .int (0 : Int32)), (5, .int x9), (4, .int x5), (3, .int (0 : Int32)), (0, .ref (ad 30 0)), (1, .int a1), (2, .int a2)]) B dX9_does_30 (by decide) rfl ?_
  refine g_sub [4, 5, 3, 2, 1, 0] rfl ?_
  exact b_X9_does_32 B N N _ _ _ _ _ _ h

def rm_X9_canAll : Room := { frames := 0, cells := 0, slots := 0, locals := 0 }
def f_X9_canAll (cs : List (Nat × Nat)) (N : Nat)  (S : HS) : Option (Int32 × HS) :=
  ck (mc cs 30 0) (
  ck (mc cs 31 24) (
  ck (inb (0 : Int32) 4) (
  ck (mc cs 32 1) (
  ck (inb (gi S 31 24 (0 : Int32).toNatClampNeg) 512) (
  if (gi S 32 1 (gi S 31 24 (0 : Int32).toNatClampNeg).toNatClampNeg) = 0 then (
    some ((0 : Int32), S))
  else (
    ck (inb (1 : Int32) 4) (
    ck (inb ((128 : Int32) + (gi S 31 24 (1 : Int32).toNatClampNeg)) 512) (
    if (gi S 32 1 ((128 : Int32) + (gi S 31 24 (1 : Int32).toNatClampNeg)).toNatClampNeg) = 0 then (
      some ((0 : Int32), S))
    else (
      ck (inb (2 : Int32) 4) (
      ck (inb ((256 : Int32) + (gi S 31 24 (2 : Int32).toNatClampNeg)) 512) (
      if (gi S 32 1 ((256 : Int32) + (gi S 31 24 (2 : Int32).toNatClampNeg)).toNatClampNeg) = 0 then (
        some ((0 : Int32), S))
      else (
        ck (inb (3 : Int32) 4) (
        ck (inb ((384 : Int32) + (gi S 31 24 (3 : Int32).toNatClampNeg)) 512) (
        if (gi S 32 1 ((384 : Int32) + (gi S 31 24 (3 : Int32).toNatClampNeg)).toNatClampNeg) = 0 then (
          some ((0 : Int32), S))
        else (
          some ((1 : Int32), S))))))))))))))))
set_option maxHeartbeats 4000000 in
set_option maxRecDepth 100000 in
theorem c_X9_canAll {l : Launch} {D : va_G} {cy : Nat → ClassId} {cs : List (Nat × Nat)} {ad : Nat → Nat → Nat} {Zp : State → Prop} (hA : AdOk cs ad) (hZ : ZOk cs ad Zp) (N : Nat)  (S : HS) (r : Int32) (Z : HS) (h : f_X9_canAll cs N  S = some (r, Z)) : Ctr Zp l yX9_canAll cX9_canAll 1 (some .boolean) rm_X9_canAll D cy cs ad [.ref (ad 30 0)] S (some (.int r)) Z := by
  unfold f_X9_canAll at h
  refine Ctr.of hA hZ RX9 (plainFor_of_name (by decide)) rfl [(0, .ref (ad 30 0))] rfl (Nat.le_of_ble_eq_true rfl) (fun p e s m below meth c B => ?_)
  refine g_aload_n B dX9_canAll_0 0 rfl rfl ?_
  obtain ⟨m1, h⟩ := ck_e h
  refine gt_X9_38 B m1 kf_X9_84 dX9_canAll_1 ?_
  refine g_aload_n B dX9_canAll_4 0 rfl rfl ?_
  refine gt_X9_41 B m1 kf_X9_93 dX9_canAll_5 ?_
  refine g_iconst (v := (0 : Int32)) B dX9_canAll_8 (by decide) ?_
  obtain ⟨m2, h⟩ := ck_e h
  obtain ⟨b3, h⟩ := ck_e h
  refine g_iald (n := 4) B m2 (fun _ => rfl) b3 dX9_canAll_9 ?_
  obtain ⟨m4, h⟩ := ck_e h
  obtain ⟨b5, h⟩ := ck_e h
  refine g_zald (n := 512) B m4 (fun _ => rfl) b5 dX9_canAll_10 ?_
  refine g_if_eq B 72 dX9_canAll_11 (by decide) (fun q6 => ?_) (fun q6 => ?_)
  · have h := if_t h q6
    refine g_iconst (v := (0 : Int32)) B dX9_canAll_72 (by decide) ?_
    obtain ⟨rfl, rfl⟩ := some_e h
    exact g_zret B (by decide) dX9_canAll_73
  · have h := if_f h q6
    refine g_aload_n B dX9_canAll_14 0 rfl rfl ?_
    refine gt_X9_38 B m1 kf_X9_84 dX9_canAll_15 ?_
    refine g_sipush (v := (128 : Int32)) B dX9_canAll_18 (by decide) ?_
    refine g_aload_n B dX9_canAll_21 0 rfl rfl ?_
    refine gt_X9_41 B m1 kf_X9_93 dX9_canAll_22 ?_
    refine g_iconst (v := (1 : Int32)) B dX9_canAll_25 (by decide) ?_
    obtain ⟨b7, h⟩ := ck_e h
    refine g_iald (n := 4) B m2 (fun _ => rfl) b7 dX9_canAll_26 ?_
    refine g_iadd B dX9_canAll_27 ?_
    obtain ⟨b8, h⟩ := ck_e h
    refine g_zald (n := 512) B m4 (fun _ => rfl) b8 dX9_canAll_28 ?_
    refine g_if_eq B 72 dX9_canAll_29 (by decide) (fun q9 => ?_) (fun q9 => ?_)
    · have h := if_t h q9
      refine g_iconst (v := (0 : Int32)) B dX9_canAll_72 (by decide) ?_
      obtain ⟨rfl, rfl⟩ := some_e h
      exact g_zret B (by decide) dX9_canAll_73
    · have h := if_f h q9
      refine g_aload_n B dX9_canAll_32 0 rfl rfl ?_
      refine gt_X9_38 B m1 kf_X9_84 dX9_canAll_33 ?_
      refine g_sipush (v := (256 : Int32)) B dX9_canAll_36 (by decide) ?_
      refine g_aload_n B dX9_canAll_39 0 rfl rfl ?_
      refine gt_X9_41 B m1 kf_X9_93 dX9_canAll_40 ?_
      refine g_iconst (v := (2 : Int32)) B dX9_canAll_43 (by decide) ?_
      obtain ⟨b10, h⟩ := ck_e h
      refine g_iald (n := 4) B m2 (fun _ => rfl) b10 dX9_canAll_44 ?_
      refine g_iadd B dX9_canAll_45 ?_
      obtain ⟨b11, h⟩ := ck_e h
      refine g_zald (n := 512) B m4 (fun _ => rfl) b11 dX9_canAll_46 ?_
      refine g_if_eq B 72 dX9_canAll_47 (by decide) (fun q12 => ?_) (fun q12 => ?_)
      · have h := if_t h q12
        refine g_iconst (v := (0 : Int32)) B dX9_canAll_72 (by decide) ?_
        obtain ⟨rfl, rfl⟩ := some_e h
        exact g_zret B (by decide) dX9_canAll_73
      · have h := if_f h q12
        refine g_aload_n B dX9_canAll_50 0 rfl rfl ?_
        refine gt_X9_38 B m1 kf_X9_84 dX9_canAll_51 ?_
        refine g_sipush (v := (384 : Int32)) B dX9_canAll_54 (by decide) ?_
        refine g_aload_n B dX9_canAll_57 0 rfl rfl ?_
        refine gt_X9_41 B m1 kf_X9_93 dX9_canAll_58 ?_
        refine g_iconst (v := (3 : Int32)) B dX9_canAll_61 (by decide) ?_
        obtain ⟨b13, h⟩ := ck_e h
        refine g_iald (n := 4) B m2 (fun _ => rfl) b13 dX9_canAll_62 ?_
        refine g_iadd B dX9_canAll_63 ?_
        obtain ⟨b14, h⟩ := ck_e h
        refine g_zald (n := 512) B m4 (fun _ => rfl) b14 dX9_canAll_64 ?_
        refine g_if_eq B 72 dX9_canAll_65 (by decide) (fun q15 => ?_) (fun q15 => ?_)
        · have h := if_t h q15
          refine g_iconst (v := (0 : Int32)) B dX9_canAll_72 (by decide) ?_
          obtain ⟨rfl, rfl⟩ := some_e h
          exact g_zret B (by decide) dX9_canAll_73
        · have h := if_f h q15
          refine g_iconst (v := (1 : Int32)) B dX9_canAll_68 (by decide) ?_
          refine g_goto B 73 dX9_canAll_69 (by decide) ?_
          obtain ⟨rfl, rfl⟩ := some_e h
          exact g_zret B (by decide) dX9_canAll_73

def rm_X9_tries (d : Nat) : Room := { frames := 2 + d, cells := 0, slots := 0, locals := 43 + 24 * d }
def f_X9_tries_53 (cs : List (Nat × Nat)) (N : Nat) (self : Int32 → Int32 → Int32 → HS → Option (Unit × HS))  : Nat → Int32 → HS → Option (Unit × HS)
  | 0, _, _ => none
  | n + 1, v4, S =>
    ck (mc cs 30 0) (
    if (gi S 30 0 1) ≤ v4 then (
      some ((), S))
    else (
      ck (mc cs 31 22) (
      ck (inb v4 7) (
      ck (mc cs 31 23) (
      ck (inb v4 7) (
      lt_ (ui S 31 23 v4.toNatClampNeg (gi S 31 22 v4.toNatClampNeg)) (fun S7 =>
      lt_ (v4 + (1 : Int32)) (fun x9 =>
      f_X9_tries_53 cs N self n x9 S7))))))))
set_option maxHeartbeats 4000000 in
set_option maxRecDepth 100000 in
theorem b_X9_tries_53 {p : Program} {l : Launch} {e : Env} {s : State} {m : MethodId} {args : Array Value} {below : List Frame} {meth : Method} {c : Code} {D : va_G} {cy : Nat → ClassId} {cs : List (Nat × Nat)} {ad : Nat → Nat → Nat} {Zp : State → Prop} {r : Unit} {Z : HS} {d : Nat} (B : Bd p s m args meth c D cy cs ad Zp cX9_tries 5 RX9 none) (N : Nat) (self : Int32 → Int32 → Int32 → HS → Option (Unit × HS)) (hself : ∀ (a1 : Int32) (a2 : Int32) (a3 : Int32) (S : HS) (r : Unit) (Z : HS), self a1 a2 a3 S = some (r, Z) → Ctr Zp l yX9_tries cX9_tries 5 none (rm_X9_tries d) D cy cs ad [.ref (ad 30 0), .int a1, .int a2, .int a3] S (none) Z)  : ∀ (n : Nat) (v4 : Int32) (S : HS), f_X9_tries_53 cs N self n v4 S = some (r, Z) → GW p l e (rm_X9_tries (d + 1)) s m args below meth c (QM below args s D cy cs ad (none) Z) D cy cs ad 0 0 5 53 [(0, .ref (ad 30 0)), (4, .int v4)] [] S := by
  have hA := B.2.2.2.2.2.2.1
  have hZ := B.2.2.2.2.2.2.2.2.2.2
  intro n
  induction n with
  | zero => intro v4 S h; cases h
  | succ n ih =>
    intro v4 S h
    rw [f_X9_tries_53] at h
    refine g_iload B dX9_tries_53 1 rfl ?_
    refine g_aload_n B dX9_tries_55 0 rfl rfl ?_
    obtain ⟨m1, h⟩ := ck_e h
    refine gt_X9_1 B m1 kf_X9_111 dX9_tries_56 ?_
    refine g_icmp_ge B 82 dX9_tries_59 (by decide) (fun q2 => ?_) (fun q2 => ?_)
    · have h := if_t h q2
      obtain ⟨-, rfl⟩ := some_e h
      exact g_vret B dX9_tries_82
    · have h := if_f h q2
      refine g_aload_n B dX9_tries_62 0 rfl rfl ?_
      refine gt_X9_40 B m1 kf_X9_90 dX9_tries_63 ?_
      refine g_iload B dX9_tries_66 1 rfl ?_
      refine g_aload_n B dX9_tries_68 0 rfl rfl ?_
      refine gt_X9_39 B m1 kf_X9_87 dX9_tries_69 ?_
      refine g_iload B dX9_tries_72 1 rfl ?_
      obtain ⟨m3, h⟩ := ck_e h
      obtain ⟨b4, h⟩ := ck_e h
      refine g_iald (n := 7) B m3 (fun _ => rfl) b4 dX9_tries_74 ?_
      obtain ⟨m5, h⟩ := ck_e h
      obtain ⟨b6, h⟩ := ck_e h
      obtain ⟨S7, e8, h⟩ := lt_e h
      refine g_iast (n := 7) B m5 b6 (fun _ => rfl) e8 dX9_tries_75 ?_
      obtain ⟨x9, e10, h⟩ := lt_e h
      refine g_iinc (v := x9) (lv' := [(4, .int x9), (0, .ref (ad 30 0))]) B dX9_tries_76 (k := 1) rfl (by rw [e10]; rfl) (by decide) rfl ?_
      refine g_goto B 53 dX9_tries_79 (by decide) ?_
      refine g_sub [1, 0] rfl ?_
      exact ih _ _ h
def f_X9_tries_32 (cs : List (Nat × Nat)) (N : Nat) (self : Int32 → Int32 → Int32 → HS → Option (Unit × HS))  (v2 : Int32) (v3 : Int32) (S : HS) : Option (Unit × HS) :=
  ck (mc cs 30 0) (
  ob (f_X9_canAll cs N  S) (fun r2 S3 =>
  if r2 = 0 then (
    some ((), S3))
  else (
    lt_ (ui S3 30 0 42 v2) (fun S6 =>
    lt_ (ui S6 30 0 43 v3) (fun S8 =>
    f_X9_tries_53 cs N self N (0 : Int32) S8)))))
set_option maxHeartbeats 4000000 in
set_option maxRecDepth 100000 in
theorem b_X9_tries_32 {p : Program} {l : Launch} {e : Env} {s : State} {m : MethodId} {args : Array Value} {below : List Frame} {meth : Method} {c : Code} {D : va_G} {cy : Nat → ClassId} {cs : List (Nat × Nat)} {ad : Nat → Nat → Nat} {Zp : State → Prop} {r : Unit} {Z : HS} {d : Nat} (B : Bd p s m args meth c D cy cs ad Zp cX9_tries 5 RX9 none) (N : Nat) (self : Int32 → Int32 → Int32 → HS → Option (Unit × HS)) (hself : ∀ (a1 : Int32) (a2 : Int32) (a3 : Int32) (S : HS) (r : Unit) (Z : HS), self a1 a2 a3 S = some (r, Z) → Ctr Zp l yX9_tries cX9_tries 5 none (rm_X9_tries d) D cy cs ad [.ref (ad 30 0), .int a1, .int a2, .int a3] S (none) Z)  (v2 : Int32) (v3 : Int32) (S : HS) (h : f_X9_tries_32 cs N self v2 v3 S = some (r, Z)) : GW p l e (rm_X9_tries (d + 1)) s m args below meth c (QM below args s D cy cs ad (none) Z) D cy cs ad 0 0 5 32 [(0, .ref (ad 30 0)), (2, .int v2), (3, .int v3)] [] S := by
  have hA := B.2.2.2.2.2.2.1
  have hZ := B.2.2.2.2.2.2.2.2.2.2
  unfold f_X9_tries_32 at h
  refine g_aload_n B dX9_tries_32 0 rfl rfl ?_
  obtain ⟨m1, h⟩ := ck_e h
  obtain ⟨r2, S3, e4, h⟩ := ob_e h
  refine g_cvi (rest := []) B (c_X9_canAll hA hZ N  _ _ _ e4) mf_X9_canAll km_X9_223 ⟨by show _ ≤ _; simp only [rm_X9_tries, rm_X9_canAll]; omega, by show _ ≤ _; simp only [rm_X9_tries, rm_X9_canAll]; omega⟩ ⟨rfl, rfl⟩ m1 rfl rfl rfl rfl (Nat.le_of_ble_eq_true rfl) ⟨Nat.zero_le _, Nat.zero_le _⟩ dX9_tries_33 ?_
  refine g_if_ne B 40 dX9_tries_36 (by decide) (fun q5 => ?_) (fun q5 => ?_)
  · have h := if_f h q5
    refine g_aload_n B dX9_tries_40 0 rfl rfl ?_
    refine g_iload_n B dX9_tries_41 1 rfl rfl ?_
    obtain ⟨S6, e7, h⟩ := lt_e h
    refine pt_X9_42 B m1 kf_X9_217 e7 dX9_tries_42 ?_
    refine g_aload_n B dX9_tries_45 0 rfl rfl ?_
    refine g_iload_n B dX9_tries_46 2 rfl rfl ?_
    obtain ⟨S8, e9, h⟩ := lt_e h
    refine pt_X9_43 B m1 kf_X9_220 e9 dX9_tries_47 ?_
    refine g_iconst (v := (0 : Int32)) B dX9_tries_50 (by decide) ?_
    refine g_istore (lv' := [(4, .int (0 : Int32)), (0, .ref (ad 30 0)), (2, .int v2), (3, .int v3)]) B dX9_tries_51 (by decide) rfl ?_
    refine g_sub [1, 0] rfl ?_
    exact b_X9_tries_53 B N _ hself N _ _ h
  · have h := if_t h q5
    obtain ⟨-, rfl⟩ := some_e h
    exact g_vret B dX9_tries_39
def f_X9_tries_166 (cs : List (Nat × Nat)) (N : Nat) (self : Int32 → Int32 → Int32 → HS → Option (Unit × HS))  (v1 : Int32) (v2 : Int32) (v3 : Int32) (S : HS) : Option (Unit × HS) :=
  ck (mc cs 30 0) (
  ck (mc cs 31 22) (
  ck (inb v1 7) (
  lt_ (ui S 31 22 v1.toNatClampNeg (-1 : Int32)) (fun S4 =>
  ob (self (v1 + (1 : Int32)) v2 v3 S4) (fun r6 S7 =>
  some ((), S7))))))
set_option maxHeartbeats 4000000 in
set_option maxRecDepth 100000 in
theorem b_X9_tries_166 {p : Program} {l : Launch} {e : Env} {s : State} {m : MethodId} {args : Array Value} {below : List Frame} {meth : Method} {c : Code} {D : va_G} {cy : Nat → ClassId} {cs : List (Nat × Nat)} {ad : Nat → Nat → Nat} {Zp : State → Prop} {r : Unit} {Z : HS} {d : Nat} (B : Bd p s m args meth c D cy cs ad Zp cX9_tries 5 RX9 none) (N : Nat) (self : Int32 → Int32 → Int32 → HS → Option (Unit × HS)) (hself : ∀ (a1 : Int32) (a2 : Int32) (a3 : Int32) (S : HS) (r : Unit) (Z : HS), self a1 a2 a3 S = some (r, Z) → Ctr Zp l yX9_tries cX9_tries 5 none (rm_X9_tries d) D cy cs ad [.ref (ad 30 0), .int a1, .int a2, .int a3] S (none) Z)  (v1 : Int32) (v2 : Int32) (v3 : Int32) (S : HS) (h : f_X9_tries_166 cs N self v1 v2 v3 S = some (r, Z)) : GW p l e (rm_X9_tries (d + 1)) s m args below meth c (QM below args s D cy cs ad (none) Z) D cy cs ad 0 0 5 166 [(0, .ref (ad 30 0)), (1, .int v1), (2, .int v2), (3, .int v3)] [] S := by
  have hA := B.2.2.2.2.2.2.1
  have hZ := B.2.2.2.2.2.2.2.2.2.2
  unfold f_X9_tries_166 at h
  refine g_aload_n B dX9_tries_166 0 rfl rfl ?_
  obtain ⟨m1, h⟩ := ck_e h
  refine gt_X9_39 B m1 kf_X9_87 dX9_tries_167 ?_
  refine g_iload_n B dX9_tries_170 1 rfl rfl ?_
  refine g_iconst (v := (-1 : Int32)) B dX9_tries_171 (by decide) ?_
  obtain ⟨m2, h⟩ := ck_e h
  obtain ⟨b3, h⟩ := ck_e h
  obtain ⟨S4, e5, h⟩ := lt_e h
  refine g_iast (n := 7) B m2 b3 (fun _ => rfl) e5 dX9_tries_172 ?_
  refine g_aload_n B dX9_tries_173 0 rfl rfl ?_
  refine g_iload_n B dX9_tries_174 1 rfl rfl ?_
  refine g_iconst (v := (1 : Int32)) B dX9_tries_175 (by decide) ?_
  refine g_iadd B dX9_tries_176 ?_
  refine g_iload_n B dX9_tries_177 2 rfl rfl ?_
  refine g_iload_n B dX9_tries_178 3 rfl rfl ?_
  obtain ⟨r6, S7, e8, h⟩ := ob_e h
  refine g_cvv (rest := []) B (hself _ _ _ _ _ _ e8) mf_X9_tries km_X9_226 ⟨by show _ ≤ _; simp only [rm_X9_tries]; omega, by show _ ≤ _; simp only [rm_X9_tries]; omega⟩ ⟨rfl, rfl⟩ m1 rfl rfl rfl rfl (Nat.le_of_ble_eq_true rfl) ⟨Nat.zero_le _, Nat.zero_le _⟩ dX9_tries_179 ?_
  obtain ⟨-, rfl⟩ := some_e h
  exact g_vret B dX9_tries_182
def f_X9_tries_86 (cs : List (Nat × Nat)) (N : Nat) (self : Int32 → Int32 → Int32 → HS → Option (Unit × HS))  : Nat → Int32 → Int32 → Int32 → Int32 → HS → Option (Unit × HS)
  | 0, _, _, _, _, _ => none
  | n + 1, v1, v2, v3, v4, S =>
    if (4 : Int32) ≤ v4 then (
      f_X9_tries_166 cs N self v1 v2 v3 S)
    else (
      ck (mc cs 30 0) (
      ob (f_X9_isOpen cs N v1 S) (fun r3 S4 =>
      if r3 = 0 then (
        f_X9_tries_166 cs N self v1 v2 v3 S4)
      else (
        ck (mc cs 31 24) (
        ck (inb v4 4) (
        ck (inb v4 4) (
        lt_ (ui S4 31 24 v4.toNatClampNeg ((gi S4 31 24 v4.toNatClampNeg) ||| ((1 : Int32) <<< (v1 &&& 31)))) (fun S10 =>
        ck (mc cs 31 22) (
        ck (inb v1 7) (
        lt_ (ui S10 31 22 v1.toNatClampNeg v4) (fun S14 =>
        ck (mc cs 31 9) (
        ck (inb v1 7) (
        ob (f_X9_left cs N v4 v1 S14) (fun r18 S19 =>
        ob (self (v1 + (1 : Int32)) (v2 + (gi S14 31 9 v1.toNatClampNeg)) (v3 + r18) S19) (fun r21 S22 =>
        ck (inb v4 4) (
        ck (inb v4 4) (
        lt_ (ui S22 31 24 v4.toNatClampNeg ((gi S22 31 24 v4.toNatClampNeg) &&& (((1 : Int32) <<< (v1 &&& 31)) ^^^ (-1 : Int32)))) (fun S26 =>
        lt_ (v4 + (1 : Int32)) (fun x28 =>
        f_X9_tries_86 cs N self n v1 v2 v3 x28 S26)))))))))))))))))))
set_option maxHeartbeats 4000000 in
set_option maxRecDepth 100000 in
theorem b_X9_tries_86 {p : Program} {l : Launch} {e : Env} {s : State} {m : MethodId} {args : Array Value} {below : List Frame} {meth : Method} {c : Code} {D : va_G} {cy : Nat → ClassId} {cs : List (Nat × Nat)} {ad : Nat → Nat → Nat} {Zp : State → Prop} {r : Unit} {Z : HS} {d : Nat} (B : Bd p s m args meth c D cy cs ad Zp cX9_tries 5 RX9 none) (N : Nat) (self : Int32 → Int32 → Int32 → HS → Option (Unit × HS)) (hself : ∀ (a1 : Int32) (a2 : Int32) (a3 : Int32) (S : HS) (r : Unit) (Z : HS), self a1 a2 a3 S = some (r, Z) → Ctr Zp l yX9_tries cX9_tries 5 none (rm_X9_tries d) D cy cs ad [.ref (ad 30 0), .int a1, .int a2, .int a3] S (none) Z)  : ∀ (n : Nat) (v1 : Int32) (v2 : Int32) (v3 : Int32) (v4 : Int32) (S : HS), f_X9_tries_86 cs N self n v1 v2 v3 v4 S = some (r, Z) → GW p l e (rm_X9_tries (d + 1)) s m args below meth c (QM below args s D cy cs ad (none) Z) D cy cs ad 0 0 5 86 [(0, .ref (ad 30 0)), (1, .int v1), (2, .int v2), (3, .int v3), (4, .int v4)] [] S := by
  have hA := B.2.2.2.2.2.2.1
  have hZ := B.2.2.2.2.2.2.2.2.2.2
  intro n
  induction n with
  | zero => intro v1 v2 v3 v4 S h; cases h
  | succ n ih =>
    intro v1 v2 v3 v4 S h
    rw [f_X9_tries_86] at h
    refine g_iload B dX9_tries_86 4 rfl ?_
    refine g_iconst (v := (4 : Int32)) B dX9_tries_88 (by decide) ?_
    refine g_icmp_ge B 166 dX9_tries_89 (by decide) (fun q1 => ?_) (fun q1 => ?_)
    · have h := if_t h q1
      refine g_sub [0, 1, 2, 3] rfl ?_
      exact b_X9_tries_166 B N _ hself _ _ _ _ h
    · have h := if_f h q1
      refine g_aload_n B dX9_tries_92 0 rfl rfl ?_
      refine g_iload_n B dX9_tries_93 1 rfl rfl ?_
      obtain ⟨m2, h⟩ := ck_e h
      obtain ⟨r3, S4, e5, h⟩ := ob_e h
      refine g_cvi (rest := []) B (c_X9_isOpen hA hZ N _ _ _ _ e5) mf_X9_isOpen km_X9_117 ⟨by show _ ≤ _; simp only [rm_X9_tries, rm_X9_isOpen]; omega, by show _ ≤ _; simp only [rm_X9_tries, rm_X9_isOpen]; omega⟩ ⟨rfl, rfl⟩ m2 rfl rfl rfl rfl (Nat.le_of_ble_eq_true rfl) ⟨Nat.zero_le _, Nat.zero_le _⟩ dX9_tries_94 ?_
      refine g_if_eq B 166 dX9_tries_97 (by decide) (fun q6 => ?_) (fun q6 => ?_)
      · have h := if_t h q6
        refine g_sub [0, 1, 2, 3] rfl ?_
        exact b_X9_tries_166 B N _ hself _ _ _ _ h
      · have h := if_f h q6
        refine g_aload_n B dX9_tries_100 0 rfl rfl ?_
        refine gt_X9_41 B m2 kf_X9_93 dX9_tries_101 ?_
        refine g_iload B dX9_tries_104 4 rfl ?_
        refine g_dup2 B dX9_tries_106 rfl rfl ?_
        obtain ⟨m7, h⟩ := ck_e h
        obtain ⟨b8, h⟩ := ck_e h
        refine g_iald (n := 4) B m7 (fun _ => rfl) b8 dX9_tries_107 ?_
        refine g_iconst (v := (1 : Int32)) B dX9_tries_108 (by decide) ?_
        refine g_iload_n B dX9_tries_109 1 rfl rfl ?_
        refine g_ishl B dX9_tries_110 ?_
        refine g_ior B dX9_tries_111 ?_
        obtain ⟨b9, h⟩ := ck_e h
        obtain ⟨S10, e11, h⟩ := lt_e h
        refine g_iast (n := 4) B m7 b9 (fun _ => rfl) e11 dX9_tries_112 ?_
        refine g_aload_n B dX9_tries_113 0 rfl rfl ?_
        refine gt_X9_39 B m2 kf_X9_87 dX9_tries_114 ?_
        refine g_iload_n B dX9_tries_117 1 rfl rfl ?_
        refine g_iload B dX9_tries_118 4 rfl ?_
        obtain ⟨m12, h⟩ := ck_e h
        obtain ⟨b13, h⟩ := ck_e h
        obtain ⟨S14, e15, h⟩ := lt_e h
        refine g_iast (n := 7) B m12 b13 (fun _ => rfl) e15 dX9_tries_120 ?_
        refine g_aload_n B dX9_tries_121 0 rfl rfl ?_
        refine g_iload_n B dX9_tries_122 1 rfl rfl ?_
        refine g_iconst (v := (1 : Int32)) B dX9_tries_123 (by decide) ?_
        refine g_iadd B dX9_tries_124 ?_
        refine g_iload_n B dX9_tries_125 2 rfl rfl ?_
        refine g_aload_n B dX9_tries_126 0 rfl rfl ?_
        refine gt_X9_12 B m2 kf_X9_37 dX9_tries_127 ?_
        refine g_iload_n B dX9_tries_130 1 rfl rfl ?_
        obtain ⟨m16, h⟩ := ck_e h
        obtain ⟨b17, h⟩ := ck_e h
        refine g_iald (n := 7) B m16 (fun _ => rfl) b17 dX9_tries_131 ?_
        refine g_iadd B dX9_tries_132 ?_
        refine g_iload_n B dX9_tries_133 3 rfl rfl ?_
        refine g_aload_n B dX9_tries_134 0 rfl rfl ?_
        refine g_iload B dX9_tries_135 4 rfl ?_
        refine g_iload_n B dX9_tries_137 1 rfl rfl ?_
        obtain ⟨r18, S19, e20, h⟩ := ob_e h
        refine g_cvi (rest := [.int v3, .int (v2 + (gi S14 31 9 v1.toNatClampNeg)), .int (v1 + (1 : Int32)), .ref (ad 30 0)]) B (c_X9_left hA hZ N _ _ _ _ _ e20) mf_X9_left km_X9_213 ⟨by show _ ≤ _; simp only [rm_X9_tries, rm_X9_left]; omega, by show _ ≤ _; simp only [rm_X9_tries, rm_X9_left]; omega⟩ ⟨rfl, rfl⟩ m2 rfl rfl rfl rfl (Nat.le_of_ble_eq_true rfl) ⟨Nat.zero_le _, Nat.zero_le _⟩ dX9_tries_138 ?_
        refine g_iadd B dX9_tries_141 ?_
        obtain ⟨r21, S22, e23, h⟩ := ob_e h
        refine g_cvv (rest := []) B (hself _ _ _ _ _ _ e23) mf_X9_tries km_X9_226 ⟨by show _ ≤ _; simp only [rm_X9_tries]; omega, by show _ ≤ _; simp only [rm_X9_tries]; omega⟩ ⟨rfl, rfl⟩ m2 rfl rfl rfl rfl (Nat.le_of_ble_eq_true rfl) ⟨Nat.zero_le _, Nat.zero_le _⟩ dX9_tries_142 ?_
        refine g_aload_n B dX9_tries_145 0 rfl rfl ?_
        refine gt_X9_41 B m2 kf_X9_93 dX9_tries_146 ?_
        refine g_iload B dX9_tries_149 4 rfl ?_
        refine g_dup2 B dX9_tries_151 rfl rfl ?_
        obtain ⟨b24, h⟩ := ck_e h
        refine g_iald (n := 4) B m7 (fun _ => rfl) b24 dX9_tries_152 ?_
        refine g_iconst (v := (1 : Int32)) B dX9_tries_153 (by decide) ?_
        refine g_iload_n B dX9_tries_154 1 rfl rfl ?_
        refine g_ishl B dX9_tries_155 ?_
        refine g_iconst (v := (-1 : Int32)) B dX9_tries_156 (by decide) ?_
        refine g_ixor B dX9_tries_157 ?_
        refine g_iand B dX9_tries_158 ?_
        obtain ⟨b25, h⟩ := ck_e h
        obtain ⟨S26, e27, h⟩ := lt_e h
        refine g_iast (n := 4) B m7 b25 (fun _ => rfl) e27 dX9_tries_159 ?_
        obtain ⟨x28, e29, h⟩ := lt_e h
        refine g_iinc (v := x28) (lv' := [(4, .int x28), (0, .ref (ad 30 0)), (1, .int v1), (2, .int v2), (3, .int v3)]) B dX9_tries_160 (k := 4) rfl (by rw [e29]; rfl) (by decide) rfl ?_
        refine g_goto B 86 dX9_tries_163 (by decide) ?_
        refine g_sub [1, 2, 3, 4, 0] rfl ?_
        exact ih _ _ _ _ _ h
def f_X9_tries_0 (cs : List (Nat × Nat)) (N : Nat) (self : Int32 → Int32 → Int32 → HS → Option (Unit × HS)) (a1 : Int32) (a2 : Int32) (a3 : Int32) (S : HS) : Option (Unit × HS) :=
  ck (mc cs 30 0) (
  if a1 = (gi S 30 0 1) then (
    if a2 < (gi S 30 0 42) then (
      some ((), S))
    else (
      if a2 = (gi S 30 0 42) then (
        if (gi S 30 0 43) ≤ a3 then (
          some ((), S))
        else (
          f_X9_tries_32 cs N self a2 a3 S))
      else (
        f_X9_tries_32 cs N self a2 a3 S)))
  else (
    f_X9_tries_86 cs N self N a1 a2 a3 (0 : Int32) S))
def f_X9_tries (cs : List (Nat × Nat)) (N : Nat) : Nat → Int32 → Int32 → Int32 → HS → Option (Unit × HS)
  | 0, _, _, _, _ => none
  | d + 1, a1, a2, a3, S => f_X9_tries_0 cs N (f_X9_tries cs N d) a1 a2 a3 S
set_option maxHeartbeats 4000000 in
set_option maxRecDepth 100000 in
theorem c_X9_tries {l : Launch} {D : va_G} {cy : Nat → ClassId} {cs : List (Nat × Nat)} {ad : Nat → Nat → Nat} {Zp : State → Prop} (hA : AdOk cs ad) (hZ : ZOk cs ad Zp) (N : Nat) : ∀ (d : Nat) (a1 : Int32) (a2 : Int32) (a3 : Int32) (S : HS) (r : Unit) (Z : HS), f_X9_tries cs N d a1 a2 a3 S = some (r, Z) → Ctr Zp l yX9_tries cX9_tries 5 none (rm_X9_tries d) D cy cs ad [.ref (ad 30 0), .int a1, .int a2, .int a3] S (none) Z := by
  intro d
  induction d with
  | zero => intro a1 a2 a3 S r Z h; cases h
  | succ d hself =>
    intro a1 a2 a3 S r Z h
    have h : f_X9_tries_0 cs N (f_X9_tries cs N d) a1 a2 a3 S = some (r, Z) := h
    unfold f_X9_tries_0 at h
    refine Ctr.of hA hZ RX9 (plainFor_of_name (by decide)) rfl [(0, .ref (ad 30 0)), (1, .int a1), (2, .int a2), (3, .int a3)] rfl (Nat.le_of_ble_eq_true rfl) (fun p e s m below meth c B => ?_)
    refine g_iload_n B dX9_tries_0 1 rfl rfl ?_
    refine g_aload_n B dX9_tries_1 0 rfl rfl ?_
    obtain ⟨m1, h⟩ := ck_e h
    refine gt_X9_1 B m1 kf_X9_111 dX9_tries_2 ?_
    refine g_icmp_ne B 83 dX9_tries_5 (by decide) (fun q2 => ?_) (fun q2 => ?_)
    · have h := if_f h q2
      refine g_iconst (v := (0 : Int32)) B dX9_tries_83 (by decide) ?_
      refine g_istore (lv' := [(4, .int (0 : Int32)), (0, .ref (ad 30 0)), (1, .int a1), (2, .int a2), (3, .int a3)]) B dX9_tries_84 (by decide) rfl ?_
      refine g_sub [1, 2, 3, 4, 0] rfl ?_
      exact b_X9_tries_86 B N _ hself N _ _ _ _ _ h
    · have h := if_t h q2
      refine g_iload_n B dX9_tries_8 2 rfl rfl ?_
      refine g_aload_n B dX9_tries_9 0 rfl rfl ?_
      refine gt_X9_42 B m1 kf_X9_217 dX9_tries_10 ?_
      refine g_icmp_lt B 39 dX9_tries_13 (by decide) (fun q3 => ?_) (fun q3 => ?_)
      · have h := if_t h q3
        obtain ⟨-, rfl⟩ := some_e h
        exact g_vret B dX9_tries_39
      · have h := if_f h q3
        refine g_iload_n B dX9_tries_16 2 rfl rfl ?_
        refine g_aload_n B dX9_tries_17 0 rfl rfl ?_
        refine gt_X9_42 B m1 kf_X9_217 dX9_tries_18 ?_
        refine g_icmp_ne B 32 dX9_tries_21 (by decide) (fun q4 => ?_) (fun q4 => ?_)
        · have h := if_f h q4
          refine g_sub [0, 2, 3] rfl ?_
          exact b_X9_tries_32 B N _ hself _ _ _ h
        · have h := if_t h q4
          refine g_iload_n B dX9_tries_24 3 rfl rfl ?_
          refine g_aload_n B dX9_tries_25 0 rfl rfl ?_
          refine gt_X9_43 B m1 kf_X9_220 dX9_tries_26 ?_
          refine g_icmp_ge B 39 dX9_tries_29 (by decide) (fun q5 => ?_) (fun q5 => ?_)
          · have h := if_t h q5
            obtain ⟨-, rfl⟩ := some_e h
            exact g_vret B dX9_tries_39
          · have h := if_f h q5
            refine g_sub [0, 2, 3] rfl ?_
            exact b_X9_tries_32 B N _ hself _ _ _ h

def rm_X9_finds : Room := { frames := 12, cells := 0, slots := 0, locals := 283 }
def f_X9_finds_16 (cs : List (Nat × Nat)) (N : Nat) (K2 : Int32 → HS → Option (Unit × HS)) : Nat → Int32 → Int32 → HS → Option (Unit × HS)
  | 0, _, _, _ => none
  | n + 1, v1, v2, S =>
    ck (mc cs 30 0) (
    if ((1 : Int32) <<< ((gi S 30 0 1) &&& 31)) ≤ v2 then (
      lt_ (v1 + (1 : Int32)) (fun x3 =>
      K2 x3 S))
    else (
      ob (f_X9_does cs N v1 v2 S) (fun r5 S6 =>
      ck (mc cs 32 1) (
      ck (inb (((128 : Int32) * v1) + v2) 512) (
      lt_ (ui S6 32 1 (((128 : Int32) * v1) + v2).toNatClampNeg (vp_nar .boolean r5)) (fun S10 =>
      lt_ (v2 + (1 : Int32)) (fun x12 =>
      f_X9_finds_16 cs N K2 n v1 x12 S10)))))))
set_option maxHeartbeats 4000000 in
set_option maxRecDepth 100000 in
theorem b_X9_finds_16 {p : Program} {l : Launch} {e : Env} {s : State} {m : MethodId} {args : Array Value} {below : List Frame} {meth : Method} {c : Code} {D : va_G} {cy : Nat → ClassId} {cs : List (Nat × Nat)} {ad : Nat → Nat → Nat} {Zp : State → Prop} {r : Unit} {Z : HS} (B : Bd p s m args meth c D cy cs ad Zp cX9_finds 3 RX9 none) (N : Nat) (K2 : Int32 → HS → Option (Unit × HS)) (hK2 : ∀ (v1 : Int32) (S : HS), K2 v1 S = some (r, Z) → GW p l e rm_X9_finds s m args below meth c (QM below args s D cy cs ad (none) Z) D cy cs ad 0 0 3 2 [(0, .ref (ad 30 0)), (1, .int v1)] [] S) : ∀ (n : Nat) (v1 : Int32) (v2 : Int32) (S : HS), f_X9_finds_16 cs N K2 n v1 v2 S = some (r, Z) → GW p l e rm_X9_finds s m args below meth c (QM below args s D cy cs ad (none) Z) D cy cs ad 0 0 3 16 [(0, .ref (ad 30 0)), (1, .int v1), (2, .int v2)] [] S := by
  have hA := B.2.2.2.2.2.2.1
  have hZ := B.2.2.2.2.2.2.2.2.2.2
  intro n
  induction n with
  | zero => intro v1 v2 S h; cases h
  | succ n ih =>
    intro v1 v2 S h
    rw [f_X9_finds_16] at h
    refine g_iload_n B dX9_finds_16 2 rfl rfl ?_
    refine g_iconst (v := (1 : Int32)) B dX9_finds_17 (by decide) ?_
    refine g_aload_n B dX9_finds_18 0 rfl rfl ?_
    obtain ⟨m1, h⟩ := ck_e h
    refine gt_X9_1 B m1 kf_X9_111 dX9_finds_19 ?_
    refine g_ishl B dX9_finds_22 ?_
    refine g_icmp_ge B 50 dX9_finds_23 (by decide) (fun q2 => ?_) (fun q2 => ?_)
    · have h := if_t h q2
      obtain ⟨x3, e4, h⟩ := lt_e h
      refine g_iinc (v := x3) (lv' := [(1, .int x3), (0, .ref (ad 30 0)), (2, .int v2)]) B dX9_finds_50 (k := 1) rfl (by rw [e4]; rfl) (by decide) rfl ?_
      refine g_goto B 2 dX9_finds_53 (by decide) ?_
      refine g_sub [1, 0] rfl ?_
      exact hK2 _ _ h
    · have h := if_f h q2
      refine g_aload_n B dX9_finds_26 0 rfl rfl ?_
      refine gt_X9_38 B m1 kf_X9_84 dX9_finds_27 ?_
      refine g_sipush (v := (128 : Int32)) B dX9_finds_30 (by decide) ?_
      refine g_iload_n B dX9_finds_33 1 rfl rfl ?_
      refine g_imul B dX9_finds_34 ?_
      refine g_iload_n B dX9_finds_35 2 rfl rfl ?_
      refine g_iadd B dX9_finds_36 ?_
      refine g_aload_n B dX9_finds_37 0 rfl rfl ?_
      refine g_iload_n B dX9_finds_38 1 rfl rfl ?_
      refine g_iload_n B dX9_finds_39 2 rfl rfl ?_
      obtain ⟨r5, S6, e7, h⟩ := ob_e h
      refine g_cvi (rest := [.int (((128 : Int32) * v1) + v2), .ref (ad 32 1)]) B (c_X9_does hA hZ N _ _ _ _ _ e7) mf_X9_does km_X9_230 ⟨by decide, by decide⟩ ⟨rfl, rfl⟩ m1 rfl rfl rfl rfl (Nat.le_of_ble_eq_true rfl) ⟨Nat.zero_le _, Nat.zero_le _⟩ dX9_finds_40 ?_
      obtain ⟨m8, h⟩ := ck_e h
      obtain ⟨b9, h⟩ := ck_e h
      obtain ⟨S10, e11, h⟩ := lt_e h
      refine g_zast (n := 512) B m8 b9 (fun _ => rfl) e11 dX9_finds_43 ?_
      obtain ⟨x12, e13, h⟩ := lt_e h
      refine g_iinc (v := x12) (lv' := [(2, .int x12), (0, .ref (ad 30 0)), (1, .int v1)]) B dX9_finds_44 (k := 2) rfl (by rw [e13]; rfl) (by decide) rfl ?_
      refine g_goto B 16 dX9_finds_47 (by decide) ?_
      refine g_sub [1, 2, 0] rfl ?_
      exact ih _ _ _ h
def f_X9_finds_2 (cs : List (Nat × Nat)) (N : Nat)  : Nat → Int32 → HS → Option (Unit × HS)
  | 0, _, _ => none
  | n + 1, v1, S =>
    if (4 : Int32) ≤ v1 then (
      ck (mc cs 30 0) (
      lt_ (ui S 30 0 42 (-1 : Int32)) (fun S3 =>
      ob (f_X9_tries cs N 9 (0 : Int32) (0 : Int32) (0 : Int32) S3) (fun r5 S6 =>
      some ((), S6)))))
    else (
      ck (mc cs 30 0) (
      ck (mc cs 31 24) (
      ck (inb v1 4) (
      lt_ (ui S 31 24 v1.toNatClampNeg (0 : Int32)) (fun S11 =>
      f_X9_finds_16 cs N (f_X9_finds_2 cs N n) N v1 (0 : Int32) S11)))))
set_option maxHeartbeats 4000000 in
set_option maxRecDepth 100000 in
theorem b_X9_finds_2 {p : Program} {l : Launch} {e : Env} {s : State} {m : MethodId} {args : Array Value} {below : List Frame} {meth : Method} {c : Code} {D : va_G} {cy : Nat → ClassId} {cs : List (Nat × Nat)} {ad : Nat → Nat → Nat} {Zp : State → Prop} {r : Unit} {Z : HS} (B : Bd p s m args meth c D cy cs ad Zp cX9_finds 3 RX9 none) (N : Nat)  : ∀ (n : Nat) (v1 : Int32) (S : HS), f_X9_finds_2 cs N n v1 S = some (r, Z) → GW p l e rm_X9_finds s m args below meth c (QM below args s D cy cs ad (none) Z) D cy cs ad 0 0 3 2 [(0, .ref (ad 30 0)), (1, .int v1)] [] S := by
  have hA := B.2.2.2.2.2.2.1
  have hZ := B.2.2.2.2.2.2.2.2.2.2
  intro n
  induction n with
  | zero => intro v1 S h; cases h
  | succ n ih =>
    intro v1 S h
    rw [f_X9_finds_2] at h
    refine g_iload_n B dX9_finds_2 1 rfl rfl ?_
    refine g_iconst (v := (4 : Int32)) B dX9_finds_3 (by decide) ?_
    refine g_icmp_ge B 56 dX9_finds_4 (by decide) (fun q1 => ?_) (fun q1 => ?_)
    · have h := if_t h q1
      refine g_aload_n B dX9_finds_56 0 rfl rfl ?_
      refine g_iconst (v := (-1 : Int32)) B dX9_finds_57 (by decide) ?_
      obtain ⟨m2, h⟩ := ck_e h
      obtain ⟨S3, e4, h⟩ := lt_e h
      refine pt_X9_42 B m2 kf_X9_217 e4 dX9_finds_58 ?_
      refine g_aload_n B dX9_finds_61 0 rfl rfl ?_
      refine g_iconst (v := (0 : Int32)) B dX9_finds_62 (by decide) ?_
      refine g_iconst (v := (0 : Int32)) B dX9_finds_63 (by decide) ?_
      refine g_iconst (v := (0 : Int32)) B dX9_finds_64 (by decide) ?_
      obtain ⟨r5, S6, e7, h⟩ := ob_e h
      refine g_cvv (rest := []) B (c_X9_tries hA hZ N 9 _ _ _ _ _ _ e7) mf_X9_tries km_X9_226 ⟨by decide, by decide⟩ ⟨rfl, rfl⟩ m2 rfl rfl rfl rfl (Nat.le_of_ble_eq_true rfl) ⟨Nat.zero_le _, Nat.zero_le _⟩ dX9_finds_65 ?_
      obtain ⟨-, rfl⟩ := some_e h
      exact g_vret B dX9_finds_68
    · have h := if_f h q1
      refine g_aload_n B dX9_finds_7 0 rfl rfl ?_
      obtain ⟨m8, h⟩ := ck_e h
      refine gt_X9_41 B m8 kf_X9_93 dX9_finds_8 ?_
      refine g_iload_n B dX9_finds_11 1 rfl rfl ?_
      refine g_iconst (v := (0 : Int32)) B dX9_finds_12 (by decide) ?_
      obtain ⟨m9, h⟩ := ck_e h
      obtain ⟨b10, h⟩ := ck_e h
      obtain ⟨S11, e12, h⟩ := lt_e h
      refine g_iast (n := 4) B m9 b10 (fun _ => rfl) e12 dX9_finds_13 ?_
      refine g_iconst (v := (0 : Int32)) B dX9_finds_14 (by decide) ?_
      refine g_istore_n (lv' := [(2, .int (0 : Int32)), (0, .ref (ad 30 0)), (1, .int v1)]) B dX9_finds_15 rfl (by decide) rfl ?_
      refine g_sub [1, 2, 0] rfl ?_
      exact b_X9_finds_16 B N _ ih N _ _ _ h
def f_X9_finds (cs : List (Nat × Nat)) (N : Nat)  (S : HS) : Option (Unit × HS) :=
  f_X9_finds_2 cs N N (0 : Int32) S
set_option maxHeartbeats 4000000 in
set_option maxRecDepth 100000 in
theorem c_X9_finds {l : Launch} {D : va_G} {cy : Nat → ClassId} {cs : List (Nat × Nat)} {ad : Nat → Nat → Nat} {Zp : State → Prop} (hA : AdOk cs ad) (hZ : ZOk cs ad Zp) (N : Nat)  (S : HS) (r : Unit) (Z : HS) (h : f_X9_finds cs N  S = some (r, Z)) : Ctr Zp l yX9_finds cX9_finds 3 none rm_X9_finds D cy cs ad [.ref (ad 30 0)] S (none) Z := by
  unfold f_X9_finds at h
  refine Ctr.of hA hZ RX9 (plainFor_of_name (by decide)) rfl [(0, .ref (ad 30 0))] rfl (Nat.le_of_ble_eq_true rfl) (fun p e s m below meth c B => ?_)
  refine g_iconst (v := (0 : Int32)) B dX9_finds_0 (by decide) ?_
  refine g_istore_n (lv' := [(1, .int (0 : Int32)), (0, .ref (ad 30 0))]) B dX9_finds_1 rfl (by decide) rfl ?_
  refine g_sub [1, 0] rfl ?_
  exact b_X9_finds_2 B N N _ _ h

def rm_X9_look : Room := { frames := 1, cells := 0, slots := 0, locals := 22 }
def f_X9_look_86 (cs : List (Nat × Nat)) (N : Nat) (K52 : Int32 → Int32 → Int32 → HS → Option (Int32 × HS)) (v1 : Int32) (v3 : Int32) (t0 : Int32) (t1 : Int32) (t2 : Int32) (S : HS) : Option (Int32 × HS) :=
  if t1 = t0 then (
    lt_ ((t2 + (1 : Int32))) (fun x6 =>
    lt_ (v3 + (1 : Int32)) (fun x8 =>
    K52 v1 x6 x8 S)))
  else (
    lt_ ((t2 + (0 : Int32))) (fun x2 =>
    lt_ (v3 + (1 : Int32)) (fun x4 =>
    K52 v1 x2 x4 S)))
set_option maxHeartbeats 4000000 in
set_option maxRecDepth 100000 in
theorem b_X9_look_86 {p : Program} {l : Launch} {e : Env} {s : State} {m : MethodId} {args : Array Value} {below : List Frame} {meth : Method} {c : Code} {D : va_G} {cy : Nat → ClassId} {cs : List (Nat × Nat)} {ad : Nat → Nat → Nat} {Zp : State → Prop} {r : Int32} {Z : HS} (B : Bd p s m args meth c D cy cs ad Zp cX9_look 4 RX9 (some .int)) (N : Nat) (K52 : Int32 → Int32 → Int32 → HS → Option (Int32 × HS)) (hK52 : ∀ (v1 : Int32) (v2 : Int32) (v3 : Int32) (S : HS), K52 v1 v2 v3 S = some (r, Z) → GW p l e rm_X9_look s m args below meth c (QM below args s D cy cs ad (some (.int r)) Z) D cy cs ad 0 0 4 52 [(0, .ref (ad 30 0)), (1, .int v1), (2, .int v2), (3, .int v3)] [] S) (v1 : Int32) (v3 : Int32) (t0 : Int32) (t1 : Int32) (t2 : Int32) (S : HS) (h : f_X9_look_86 cs N K52 v1 v3 t0 t1 t2 S = some (r, Z)) : GW p l e rm_X9_look s m args below meth c (QM below args s D cy cs ad (some (.int r)) Z) D cy cs ad 0 0 4 86 [(0, .ref (ad 30 0)), (1, .int v1), (3, .int v3)] [.int t0, .int t1, .int t2] S := by
  have hA := B.2.2.2.2.2.2.1
  have hZ := B.2.2.2.2.2.2.2.2.2.2
  unfold f_X9_look_86 at h
  refine g_icmp_ne B 93 dX9_look_86 (by decide) (fun q1 => ?_) (fun q1 => ?_)
  · have h := if_f h q1
    refine g_iconst (v := (0 : Int32)) B dX9_look_93 (by decide) ?_
    refine g_iadd B dX9_look_94 ?_
    obtain ⟨x2, e3, h⟩ := lt_e h
    refine g_topi e3 ?_
    refine g_istore_n (lv' := [(2, .int x2), (0, .ref (ad 30 0)), (1, .int v1), (3, .int v3)]) B dX9_look_95 rfl (by decide) rfl ?_
    obtain ⟨x4, e5, h⟩ := lt_e h
    refine g_iinc (v := x4) (lv' := [(3, .int x4), (2, .int x2), (0, .ref (ad 30 0)), (1, .int v1)]) B dX9_look_96 (k := 3) rfl (by rw [e5]; rfl) (by decide) rfl ?_
    refine g_goto B 52 dX9_look_99 (by decide) ?_
    refine g_sub [2, 3, 1, 0] rfl ?_
    exact hK52 _ _ _ _ h
  · have h := if_t h q1
    refine g_iconst (v := (1 : Int32)) B dX9_look_89 (by decide) ?_
    refine g_goto B 94 dX9_look_90 (by decide) ?_
    refine g_iadd B dX9_look_94 ?_
    obtain ⟨x6, e7, h⟩ := lt_e h
    refine g_topi e7 ?_
    refine g_istore_n (lv' := [(2, .int x6), (0, .ref (ad 30 0)), (1, .int v1), (3, .int v3)]) B dX9_look_95 rfl (by decide) rfl ?_
    obtain ⟨x8, e9, h⟩ := lt_e h
    refine g_iinc (v := x8) (lv' := [(3, .int x8), (2, .int x6), (0, .ref (ad 30 0)), (1, .int v1)]) B dX9_look_96 (k := 3) rfl (by rw [e9]; rfl) (by decide) rfl ?_
    refine g_goto B 52 dX9_look_99 (by decide) ?_
    refine g_sub [2, 3, 1, 0] rfl ?_
    exact hK52 _ _ _ _ h
def f_X9_look_52 (cs : List (Nat × Nat)) (N : Nat)  : Nat → Int32 → Int32 → Int32 → HS → Option (Int32 × HS)
  | 0, _, _, _, _ => none
  | n + 1, v1, v2, v3, S =>
    ck (mc cs 30 0) (
    if (gi S 30 0 1) ≤ v3 then (
      some (v2, S))
    else (
      ck (mc cs 31 13) (
      ck (inb v3 7) (
      if v1 = (2 : Int32) then (
        f_X9_look_86 cs N (f_X9_look_52 cs N n) v1 v3 (0 : Int32) (gi S 31 13 v3.toNatClampNeg) v2 S)
      else (
        if v1 = (3 : Int32) then (
          f_X9_look_86 cs N (f_X9_look_52 cs N n) v1 v3 (1 : Int32) (gi S 31 13 v3.toNatClampNeg) v2 S)
        else (
          f_X9_look_86 cs N (f_X9_look_52 cs N n) v1 v3 (3 : Int32) (gi S 31 13 v3.toNatClampNeg) v2 S))))))
set_option maxHeartbeats 4000000 in
set_option maxRecDepth 100000 in
theorem b_X9_look_52 {p : Program} {l : Launch} {e : Env} {s : State} {m : MethodId} {args : Array Value} {below : List Frame} {meth : Method} {c : Code} {D : va_G} {cy : Nat → ClassId} {cs : List (Nat × Nat)} {ad : Nat → Nat → Nat} {Zp : State → Prop} {r : Int32} {Z : HS} (B : Bd p s m args meth c D cy cs ad Zp cX9_look 4 RX9 (some .int)) (N : Nat)  : ∀ (n : Nat) (v1 : Int32) (v2 : Int32) (v3 : Int32) (S : HS), f_X9_look_52 cs N n v1 v2 v3 S = some (r, Z) → GW p l e rm_X9_look s m args below meth c (QM below args s D cy cs ad (some (.int r)) Z) D cy cs ad 0 0 4 52 [(0, .ref (ad 30 0)), (1, .int v1), (2, .int v2), (3, .int v3)] [] S := by
  have hA := B.2.2.2.2.2.2.1
  have hZ := B.2.2.2.2.2.2.2.2.2.2
  intro n
  induction n with
  | zero => intro v1 v2 v3 S h; cases h
  | succ n ih =>
    intro v1 v2 v3 S h
    rw [f_X9_look_52] at h
    refine g_iload_n B dX9_look_52 3 rfl rfl ?_
    refine g_aload_n B dX9_look_53 0 rfl rfl ?_
    obtain ⟨m1, h⟩ := ck_e h
    refine gt_X9_1 B m1 kf_X9_111 dX9_look_54 ?_
    refine g_icmp_ge B 102 dX9_look_57 (by decide) (fun q2 => ?_) (fun q2 => ?_)
    · have h := if_t h q2
      refine g_iload_n B dX9_look_102 2 rfl rfl ?_
      obtain ⟨rfl, rfl⟩ := some_e h
      exact g_iret B dX9_look_103
    · have h := if_f h q2
      refine g_iload_n B dX9_look_60 2 rfl rfl ?_
      refine g_aload_n B dX9_look_61 0 rfl rfl ?_
      refine gt_X9_16 B m1 kf_X9_49 dX9_look_62 ?_
      refine g_iload_n B dX9_look_65 3 rfl rfl ?_
      obtain ⟨m3, h⟩ := ck_e h
      obtain ⟨b4, h⟩ := ck_e h
      refine g_iald (n := 7) B m3 (fun _ => rfl) b4 dX9_look_66 ?_
      refine g_iload_n B dX9_look_67 1 rfl rfl ?_
      refine g_iconst (v := (2 : Int32)) B dX9_look_68 (by decide) ?_
      refine g_icmp_ne B 76 dX9_look_69 (by decide) (fun q5 => ?_) (fun q5 => ?_)
      · have h := if_f h q5
        refine g_iload_n B dX9_look_76 1 rfl rfl ?_
        refine g_iconst (v := (3 : Int32)) B dX9_look_77 (by decide) ?_
        refine g_icmp_ne B 85 dX9_look_78 (by decide) (fun q6 => ?_) (fun q6 => ?_)
        · have h := if_f h q6
          refine g_iconst (v := (3 : Int32)) B dX9_look_85 (by decide) ?_
          refine g_sub [0, 1, 3] rfl ?_
          exact b_X9_look_86 B N _ ih _ _ _ _ _ _ h
        · have h := if_t h q6
          refine g_iconst (v := (1 : Int32)) B dX9_look_81 (by decide) ?_
          refine g_goto B 86 dX9_look_82 (by decide) ?_
          refine g_sub [0, 1, 3] rfl ?_
          exact b_X9_look_86 B N _ ih _ _ _ _ _ _ h
      · have h := if_t h q5
        refine g_iconst (v := (0 : Int32)) B dX9_look_72 (by decide) ?_
        refine g_goto B 86 dX9_look_73 (by decide) ?_
        refine g_sub [0, 1, 3] rfl ?_
        exact b_X9_look_86 B N _ ih _ _ _ _ _ _ h
def f_X9_look (cs : List (Nat × Nat)) (N : Nat) (a1 : Int32) (S : HS) : Option (Int32 × HS) :=
  if a1 = (0 : Int32) then (
    ck (mc cs 30 0) (
    some ((gi S 30 0 0), S)))
  else (
  if a1 = (1 : Int32) then (
    ck (mc cs 30 0) (
    some ((gi S 30 0 1), S)))
  else (
  if a1 = (2 : Int32) then (
    f_X9_look_52 cs N N a1 (0 : Int32) (0 : Int32) S)
  else (
  if a1 = (3 : Int32) then (
    f_X9_look_52 cs N N a1 (0 : Int32) (0 : Int32) S)
  else (
  if a1 = (4 : Int32) then (
    f_X9_look_52 cs N N a1 (0 : Int32) (0 : Int32) S)
  else (
  if a1 = (5 : Int32) then (
    ck (mc cs 30 0) (
    some ((gi S 30 0 2), S)))
  else (
  ob (f_X9_isIn cs N a1 (10 : Int32) (13 : Int32) S) (fun r10 S11 =>
  if r10 = 0 then (
    ob (f_X9_isIn cs N a1 (20 : Int32) (23 : Int32) S11) (fun r14 S15 =>
    if r14 = 0 then (
      some ((-1 : Int32), S15))
    else (
      ck (mc cs 30 0) (
      ck (mc cs 31 2) (
      ck (inb (a1 - (20 : Int32)) 4) (
      some ((gi S15 31 2 (a1 - (20 : Int32)).toNatClampNeg), S15)))))))
  else (
    ck (mc cs 30 0) (
    ck (mc cs 31 1) (
    ck (inb (a1 - (10 : Int32)) 4) (
    some ((gi S11 31 1 (a1 - (10 : Int32)).toNatClampNeg), S11))))))))))))
set_option maxHeartbeats 4000000 in
set_option maxRecDepth 100000 in
theorem c_X9_look {l : Launch} {D : va_G} {cy : Nat → ClassId} {cs : List (Nat × Nat)} {ad : Nat → Nat → Nat} {Zp : State → Prop} (hA : AdOk cs ad) (hZ : ZOk cs ad Zp) (N : Nat) (a1 : Int32) (S : HS) (r : Int32) (Z : HS) (h : f_X9_look cs N a1 S = some (r, Z)) : Ctr Zp l yX9_look cX9_look 4 (some .int) rm_X9_look D cy cs ad [.ref (ad 30 0), .int a1] S (some (.int r)) Z := by
  unfold f_X9_look at h
  refine Ctr.of hA hZ RX9 (plainFor_of_name (by decide)) rfl [(0, .ref (ad 30 0)), (1, .int a1)] rfl (Nat.le_of_ble_eq_true rfl) (fun p e s m below meth c B => ?_)
  refine g_iconst (v := (0 : Int32)) B dX9_look_0 (by decide) ?_
  refine g_istore_n (lv' := [(2, .int (0 : Int32)), (0, .ref (ad 30 0)), (1, .int a1)]) B dX9_look_1 rfl (by decide) rfl ?_
  refine g_iload_n B dX9_look_2 2 rfl rfl ?_
  by_cases q1 : a1 = (0 : Int32)
  · have h := if_t h q1
    refine g_tableIn (off := 37) B 40 dX9_look_3 (by rw [q1]; decide) (by rw [q1]; decide) (by rw [q1]; rfl) (by decide) ?_
    refine g_aload_n B dX9_look_40 1 rfl rfl ?_
    obtain ⟨m2, h⟩ := ck_e h
    refine gt_X9_0 B m2 kf_X9_104 dX9_look_41 ?_
    obtain ⟨rfl, rfl⟩ := some_e h
    exact g_iret B dX9_look_44
  have h := if_f h q1
  by_cases q3 : a1 = (1 : Int32)
  · have h := if_t h q3
    refine g_tableIn (off := 42) B 45 dX9_look_3 (by rw [q3]; decide) (by rw [q3]; decide) (by rw [q3]; rfl) (by decide) ?_
    refine g_aload_n B dX9_look_45 1 rfl rfl ?_
    obtain ⟨m4, h⟩ := ck_e h
    refine gt_X9_1 B m4 kf_X9_111 dX9_look_46 ?_
    obtain ⟨rfl, rfl⟩ := some_e h
    exact g_iret B dX9_look_49
  have h := if_f h q3
  by_cases q5 : a1 = (2 : Int32)
  · have h := if_t h q5
    refine g_tableIn (off := 47) B 50 dX9_look_3 (by rw [q5]; decide) (by rw [q5]; decide) (by rw [q5]; rfl) (by decide) ?_
    refine g_iconst (v := (0 : Int32)) B dX9_look_50 (by decide) ?_
    refine g_istore_n (lv' := [(3, .int (0 : Int32)), (2, .int (0 : Int32)), (0, .ref (ad 30 0)), (1, .int a1)]) B dX9_look_51 rfl (by decide) rfl ?_
    refine g_sub [2, 3, 1, 0] rfl ?_
    exact b_X9_look_52 B N N _ _ _ _ h
  have h := if_f h q5
  by_cases q6 : a1 = (3 : Int32)
  · have h := if_t h q6
    refine g_tableIn (off := 47) B 50 dX9_look_3 (by rw [q6]; decide) (by rw [q6]; decide) (by rw [q6]; rfl) (by decide) ?_
    refine g_iconst (v := (0 : Int32)) B dX9_look_50 (by decide) ?_
    refine g_istore_n (lv' := [(3, .int (0 : Int32)), (2, .int (0 : Int32)), (0, .ref (ad 30 0)), (1, .int a1)]) B dX9_look_51 rfl (by decide) rfl ?_
    refine g_sub [2, 3, 1, 0] rfl ?_
    exact b_X9_look_52 B N N _ _ _ _ h
  have h := if_f h q6
  by_cases q7 : a1 = (4 : Int32)
  · have h := if_t h q7
    refine g_tableIn (off := 47) B 50 dX9_look_3 (by rw [q7]; decide) (by rw [q7]; decide) (by rw [q7]; rfl) (by decide) ?_
    refine g_iconst (v := (0 : Int32)) B dX9_look_50 (by decide) ?_
    refine g_istore_n (lv' := [(3, .int (0 : Int32)), (2, .int (0 : Int32)), (0, .ref (ad 30 0)), (1, .int a1)]) B dX9_look_51 rfl (by decide) rfl ?_
    refine g_sub [2, 3, 1, 0] rfl ?_
    exact b_X9_look_52 B N N _ _ _ _ h
  have h := if_f h q7
  by_cases q8 : a1 = (5 : Int32)
  · have h := if_t h q8
    refine g_tableIn (off := 101) B 104 dX9_look_3 (by rw [q8]; decide) (by rw [q8]; decide) (by rw [q8]; rfl) (by decide) ?_
    refine g_aload_n B dX9_look_104 1 rfl rfl ?_
    obtain ⟨m9, h⟩ := ck_e h
    refine gt_X9_2 B m9 kf_X9_233 dX9_look_105 ?_
    obtain ⟨rfl, rfl⟩ := some_e h
    exact g_iret B dX9_look_108
  have h := if_f h q8
  refine g_tableOut B 109 dX9_look_3 (by have t0 := ti_ne (0 : Int32) (0) (by decide) q1; have t1 := ti_ne (1 : Int32) (1) (by decide) q3; have t2 := ti_ne (2 : Int32) (2) (by decide) q5; have t3 := ti_ne (3 : Int32) (3) (by decide) q6; have t4 := ti_ne (4 : Int32) (4) (by decide) q7; have t5 := ti_ne (5 : Int32) (5) (by decide) q8; omega) (by decide) ?_
  refine g_iload_n B dX9_look_109 2 rfl rfl ?_
  refine g_bipush (v := (10 : Int32)) B dX9_look_110 (by decide) ?_
  refine g_bipush (v := (13 : Int32)) B dX9_look_112 (by decide) ?_
  obtain ⟨r10, S11, e12, h⟩ := ob_e h
  refine g_csi (rest := []) B (c_X9_isIn hA hZ N _ _ _ _ _ _ e12) mf_X9_isIn km_X9_96 ⟨by decide, by decide⟩ ⟨rfl, rfl⟩ rfl rfl (Nat.le_of_ble_eq_true rfl) ⟨Nat.zero_le _, Nat.zero_le _⟩ dX9_look_114 ?_
  refine g_if_eq B 132 dX9_look_117 (by decide) (fun q13 => ?_) (fun q13 => ?_)
  · have h := if_t h q13
    refine g_iload_n B dX9_look_132 2 rfl rfl ?_
    refine g_bipush (v := (20 : Int32)) B dX9_look_133 (by decide) ?_
    refine g_bipush (v := (23 : Int32)) B dX9_look_135 (by decide) ?_
    obtain ⟨r14, S15, e16, h⟩ := ob_e h
    refine g_csi (rest := []) B (c_X9_isIn hA hZ N _ _ _ _ _ _ e16) mf_X9_isIn km_X9_96 ⟨by decide, by decide⟩ ⟨rfl, rfl⟩ rfl rfl (Nat.le_of_ble_eq_true rfl) ⟨Nat.zero_le _, Nat.zero_le _⟩ dX9_look_137 ?_
    refine g_if_eq B 155 dX9_look_140 (by decide) (fun q17 => ?_) (fun q17 => ?_)
    · have h := if_t h q17
      refine g_iconst (v := (-1 : Int32)) B dX9_look_155 (by decide) ?_
      obtain ⟨rfl, rfl⟩ := some_e h
      exact g_iret B dX9_look_156
    · have h := if_f h q17
      refine g_aload_n B dX9_look_143 1 rfl rfl ?_
      obtain ⟨m18, h⟩ := ck_e h
      refine gt_X9_5 B m18 kf_X9_16 dX9_look_144 ?_
      refine g_iload_n B dX9_look_147 2 rfl rfl ?_
      refine g_bipush (v := (20 : Int32)) B dX9_look_148 (by decide) ?_
      refine g_isub B dX9_look_150 ?_
      obtain ⟨m19, h⟩ := ck_e h
      obtain ⟨b20, h⟩ := ck_e h
      refine g_iald (n := 4) B m19 (fun _ => rfl) b20 dX9_look_151 ?_
      refine g_goto B 156 dX9_look_152 (by decide) ?_
      obtain ⟨rfl, rfl⟩ := some_e h
      exact g_iret B dX9_look_156
  · have h := if_f h q13
    refine g_aload_n B dX9_look_120 1 rfl rfl ?_
    obtain ⟨m21, h⟩ := ck_e h
    refine gt_X9_4 B m21 kf_X9_13 dX9_look_121 ?_
    refine g_iload_n B dX9_look_124 2 rfl rfl ?_
    refine g_bipush (v := (10 : Int32)) B dX9_look_125 (by decide) ?_
    refine g_isub B dX9_look_127 ?_
    obtain ⟨m22, h⟩ := ck_e h
    obtain ⟨b23, h⟩ := ck_e h
    refine g_iald (n := 4) B m22 (fun _ => rfl) b23 dX9_look_128 ?_
    refine g_goto B 156 dX9_look_129 (by decide) ?_
    obtain ⟨rfl, rfl⟩ := some_e h
    exact g_iret B dX9_look_156

def rm_X9_of : Room := { frames := 1, cells := 0, slots := 0, locals := 22 }
def f_X9_of (cs : List (Nat × Nat)) (N : Nat) (a1 : Int32) (a2 : Int32) (S : HS) : Option (Int32 × HS) :=
  ck (mc cs 30 0) (
  ob (f_X9_isIn cs N a1 (0 : Int32) ((gi S 30 0 1) - (1 : Int32)) S) (fun r2 S3 =>
  if r2 = 0 then (
    some ((-1 : Int32), S3))
  else (
    if a2 = (0 : Int32) then (
      ck (mc cs 31 6) (
      ck (inb a1 7) (
      some ((gi S3 31 6 a1.toNatClampNeg), S3))))
    else (
    if a2 = (1 : Int32) then (
      ck (mc cs 31 7) (
      ck (inb a1 7) (
      some ((gi S3 31 7 a1.toNatClampNeg), S3))))
    else (
    if a2 = (2 : Int32) then (
      ck (mc cs 31 8) (
      ck (inb a1 7) (
      some ((gi S3 31 8 a1.toNatClampNeg), S3))))
    else (
    if a2 = (3 : Int32) then (
      ck (mc cs 31 9) (
      ck (inb a1 7) (
      some ((gi S3 31 9 a1.toNatClampNeg), S3))))
    else (
    if a2 = (4 : Int32) then (
      ck (mc cs 31 10) (
      ck (inb a1 7) (
      some ((gi S3 31 10 a1.toNatClampNeg), S3))))
    else (
    if a2 = (5 : Int32) then (
      ck (mc cs 31 11) (
      ck (inb a1 7) (
      some ((gi S3 31 11 a1.toNatClampNeg), S3))))
    else (
    if a2 = (6 : Int32) then (
      ck (mc cs 31 12) (
      ck (inb a1 7) (
      some ((gi S3 31 12 a1.toNatClampNeg), S3))))
    else (
    if a2 = (7 : Int32) then (
      ck (mc cs 31 13) (
      ck (inb a1 7) (
      some ((gi S3 31 13 a1.toNatClampNeg), S3))))
    else (
    if a2 = (8 : Int32) then (
      ck (mc cs 31 14) (
      ck (inb a1 7) (
      some ((gi S3 31 14 a1.toNatClampNeg), S3))))
    else (
    if a2 = (9 : Int32) then (
      ck (mc cs 31 15) (
      ck (inb a1 7) (
      some ((gi S3 31 15 a1.toNatClampNeg), S3))))
    else (
    some ((-1 : Int32), S3))))))))))))))
set_option maxHeartbeats 4000000 in
set_option maxRecDepth 100000 in
theorem c_X9_of {l : Launch} {D : va_G} {cy : Nat → ClassId} {cs : List (Nat × Nat)} {ad : Nat → Nat → Nat} {Zp : State → Prop} (hA : AdOk cs ad) (hZ : ZOk cs ad Zp) (N : Nat) (a1 : Int32) (a2 : Int32) (S : HS) (r : Int32) (Z : HS) (h : f_X9_of cs N a1 a2 S = some (r, Z)) : Ctr Zp l yX9_of cX9_of 3 (some .int) rm_X9_of D cy cs ad [.ref (ad 30 0), .int a1, .int a2] S (some (.int r)) Z := by
  unfold f_X9_of at h
  refine Ctr.of hA hZ RX9 (plainFor_of_name (by decide)) rfl [(0, .ref (ad 30 0)), (1, .int a1), (2, .int a2)] rfl (Nat.le_of_ble_eq_true rfl) (fun p e s m below meth c B => ?_)
  refine g_iload_n B dX9_of_0 1 rfl rfl ?_
  refine g_iconst (v := (0 : Int32)) B dX9_of_1 (by decide) ?_
  refine g_aload_n B dX9_of_2 0 rfl rfl ?_
  obtain ⟨m1, h⟩ := ck_e h
  refine gt_X9_1 B m1 kf_X9_111 dX9_of_3 ?_
  refine g_iconst (v := (1 : Int32)) B dX9_of_6 (by decide) ?_
  refine g_isub B dX9_of_7 ?_
  obtain ⟨r2, S3, e4, h⟩ := ob_e h
  refine g_csi (rest := []) B (c_X9_isIn hA hZ N _ _ _ _ _ _ e4) mf_X9_isIn km_X9_96 ⟨by decide, by decide⟩ ⟨rfl, rfl⟩ rfl rfl (Nat.le_of_ble_eq_true rfl) ⟨Nat.zero_le _, Nat.zero_le _⟩ dX9_of_8 ?_
  refine g_if_ne B 16 dX9_of_11 (by decide) (fun q5 => ?_) (fun q5 => ?_)
  · have h := if_f h q5
    refine g_iload_n B dX9_of_16 2 rfl rfl ?_
    by_cases q6 : a2 = (0 : Int32)
    · have h := if_t h q6
      refine g_tableIn (off := 55) B 72 dX9_of_17 (by rw [q6]; decide) (by rw [q6]; decide) (by rw [q6]; rfl) (by decide) ?_
      refine g_aload_n B dX9_of_72 0 rfl rfl ?_
      refine gt_X9_9 B m1 kf_X9_28 dX9_of_73 ?_
      refine g_iload_n B dX9_of_76 1 rfl rfl ?_
      obtain ⟨m7, h⟩ := ck_e h
      obtain ⟨b8, h⟩ := ck_e h
      refine g_iald (n := 7) B m7 (fun _ => rfl) b8 dX9_of_77 ?_
      obtain ⟨rfl, rfl⟩ := some_e h
      exact g_iret B dX9_of_78
    have h := if_f h q6
    by_cases q9 : a2 = (1 : Int32)
    · have h := if_t h q9
      refine g_tableIn (off := 62) B 79 dX9_of_17 (by rw [q9]; decide) (by rw [q9]; decide) (by rw [q9]; rfl) (by decide) ?_
      refine g_aload_n B dX9_of_79 0 rfl rfl ?_
      refine gt_X9_10 B m1 kf_X9_31 dX9_of_80 ?_
      refine g_iload_n B dX9_of_83 1 rfl rfl ?_
      obtain ⟨m10, h⟩ := ck_e h
      obtain ⟨b11, h⟩ := ck_e h
      refine g_iald (n := 7) B m10 (fun _ => rfl) b11 dX9_of_84 ?_
      obtain ⟨rfl, rfl⟩ := some_e h
      exact g_iret B dX9_of_85
    have h := if_f h q9
    by_cases q12 : a2 = (2 : Int32)
    · have h := if_t h q12
      refine g_tableIn (off := 69) B 86 dX9_of_17 (by rw [q12]; decide) (by rw [q12]; decide) (by rw [q12]; rfl) (by decide) ?_
      refine g_aload_n B dX9_of_86 0 rfl rfl ?_
      refine gt_X9_11 B m1 kf_X9_34 dX9_of_87 ?_
      refine g_iload_n B dX9_of_90 1 rfl rfl ?_
      obtain ⟨m13, h⟩ := ck_e h
      obtain ⟨b14, h⟩ := ck_e h
      refine g_iald (n := 7) B m13 (fun _ => rfl) b14 dX9_of_91 ?_
      obtain ⟨rfl, rfl⟩ := some_e h
      exact g_iret B dX9_of_92
    have h := if_f h q12
    by_cases q15 : a2 = (3 : Int32)
    · have h := if_t h q15
      refine g_tableIn (off := 76) B 93 dX9_of_17 (by rw [q15]; decide) (by rw [q15]; decide) (by rw [q15]; rfl) (by decide) ?_
      refine g_aload_n B dX9_of_93 0 rfl rfl ?_
      refine gt_X9_12 B m1 kf_X9_37 dX9_of_94 ?_
      refine g_iload_n B dX9_of_97 1 rfl rfl ?_
      obtain ⟨m16, h⟩ := ck_e h
      obtain ⟨b17, h⟩ := ck_e h
      refine g_iald (n := 7) B m16 (fun _ => rfl) b17 dX9_of_98 ?_
      obtain ⟨rfl, rfl⟩ := some_e h
      exact g_iret B dX9_of_99
    have h := if_f h q15
    by_cases q18 : a2 = (4 : Int32)
    · have h := if_t h q18
      refine g_tableIn (off := 83) B 100 dX9_of_17 (by rw [q18]; decide) (by rw [q18]; decide) (by rw [q18]; rfl) (by decide) ?_
      refine g_aload_n B dX9_of_100 0 rfl rfl ?_
      refine gt_X9_13 B m1 kf_X9_40 dX9_of_101 ?_
      refine g_iload_n B dX9_of_104 1 rfl rfl ?_
      obtain ⟨m19, h⟩ := ck_e h
      obtain ⟨b20, h⟩ := ck_e h
      refine g_iald (n := 7) B m19 (fun _ => rfl) b20 dX9_of_105 ?_
      obtain ⟨rfl, rfl⟩ := some_e h
      exact g_iret B dX9_of_106
    have h := if_f h q18
    by_cases q21 : a2 = (5 : Int32)
    · have h := if_t h q21
      refine g_tableIn (off := 90) B 107 dX9_of_17 (by rw [q21]; decide) (by rw [q21]; decide) (by rw [q21]; rfl) (by decide) ?_
      refine g_aload_n B dX9_of_107 0 rfl rfl ?_
      refine gt_X9_14 B m1 kf_X9_43 dX9_of_108 ?_
      refine g_iload_n B dX9_of_111 1 rfl rfl ?_
      obtain ⟨m22, h⟩ := ck_e h
      obtain ⟨b23, h⟩ := ck_e h
      refine g_iald (n := 7) B m22 (fun _ => rfl) b23 dX9_of_112 ?_
      obtain ⟨rfl, rfl⟩ := some_e h
      exact g_iret B dX9_of_113
    have h := if_f h q21
    by_cases q24 : a2 = (6 : Int32)
    · have h := if_t h q24
      refine g_tableIn (off := 97) B 114 dX9_of_17 (by rw [q24]; decide) (by rw [q24]; decide) (by rw [q24]; rfl) (by decide) ?_
      refine g_aload_n B dX9_of_114 0 rfl rfl ?_
      refine gt_X9_15 B m1 kf_X9_46 dX9_of_115 ?_
      refine g_iload_n B dX9_of_118 1 rfl rfl ?_
      obtain ⟨m25, h⟩ := ck_e h
      obtain ⟨b26, h⟩ := ck_e h
      refine g_iald (n := 7) B m25 (fun _ => rfl) b26 dX9_of_119 ?_
      obtain ⟨rfl, rfl⟩ := some_e h
      exact g_iret B dX9_of_120
    have h := if_f h q24
    by_cases q27 : a2 = (7 : Int32)
    · have h := if_t h q27
      refine g_tableIn (off := 104) B 121 dX9_of_17 (by rw [q27]; decide) (by rw [q27]; decide) (by rw [q27]; rfl) (by decide) ?_
      refine g_aload_n B dX9_of_121 0 rfl rfl ?_
      refine gt_X9_16 B m1 kf_X9_49 dX9_of_122 ?_
      refine g_iload_n B dX9_of_125 1 rfl rfl ?_
      obtain ⟨m28, h⟩ := ck_e h
      obtain ⟨b29, h⟩ := ck_e h
      refine g_iald (n := 7) B m28 (fun _ => rfl) b29 dX9_of_126 ?_
      obtain ⟨rfl, rfl⟩ := some_e h
      exact g_iret B dX9_of_127
    have h := if_f h q27
    by_cases q30 : a2 = (8 : Int32)
    · have h := if_t h q30
      refine g_tableIn (off := 111) B 128 dX9_of_17 (by rw [q30]; decide) (by rw [q30]; decide) (by rw [q30]; rfl) (by decide) ?_
      refine g_aload_n B dX9_of_128 0 rfl rfl ?_
      refine gt_X9_17 B m1 kf_X9_52 dX9_of_129 ?_
      refine g_iload_n B dX9_of_132 1 rfl rfl ?_
      obtain ⟨m31, h⟩ := ck_e h
      obtain ⟨b32, h⟩ := ck_e h
      refine g_iald (n := 7) B m31 (fun _ => rfl) b32 dX9_of_133 ?_
      obtain ⟨rfl, rfl⟩ := some_e h
      exact g_iret B dX9_of_134
    have h := if_f h q30
    by_cases q33 : a2 = (9 : Int32)
    · have h := if_t h q33
      refine g_tableIn (off := 118) B 135 dX9_of_17 (by rw [q33]; decide) (by rw [q33]; decide) (by rw [q33]; rfl) (by decide) ?_
      refine g_aload_n B dX9_of_135 0 rfl rfl ?_
      refine gt_X9_18 B m1 kf_X9_55 dX9_of_136 ?_
      refine g_iload_n B dX9_of_139 1 rfl rfl ?_
      obtain ⟨m34, h⟩ := ck_e h
      obtain ⟨b35, h⟩ := ck_e h
      refine g_iald (n := 7) B m34 (fun _ => rfl) b35 dX9_of_140 ?_
      obtain ⟨rfl, rfl⟩ := some_e h
      exact g_iret B dX9_of_141
    have h := if_f h q33
    refine g_tableOut B 142 dX9_of_17 (by have t0 := ti_ne (0 : Int32) (0) (by decide) q6; have t1 := ti_ne (1 : Int32) (1) (by decide) q9; have t2 := ti_ne (2 : Int32) (2) (by decide) q12; have t3 := ti_ne (3 : Int32) (3) (by decide) q15; have t4 := ti_ne (4 : Int32) (4) (by decide) q18; have t5 := ti_ne (5 : Int32) (5) (by decide) q21; have t6 := ti_ne (6 : Int32) (6) (by decide) q24; have t7 := ti_ne (7 : Int32) (7) (by decide) q27; have t8 := ti_ne (8 : Int32) (8) (by decide) q30; have t9 := ti_ne (9 : Int32) (9) (by decide) q33; omega) (by decide) ?_
    refine g_iconst (v := (-1 : Int32)) B dX9_of_142 (by decide) ?_
    obtain ⟨rfl, rfl⟩ := some_e h
    exact g_iret B dX9_of_143
  · have h := if_t h q5
    refine g_iconst (v := (-1 : Int32)) B dX9_of_14 (by decide) ?_
    obtain ⟨rfl, rfl⟩ := some_e h
    exact g_iret B dX9_of_15

def rm_X9_setOf : Room := { frames := 0, cells := 0, slots := 0, locals := 0 }
def f_X9_setOf_4 (cs : List (Nat × Nat)) (N : Nat)  : Nat → Int32 → Int32 → Int32 → HS → Option (Int32 × HS)
  | 0, _, _, _, _ => none
  | n + 1, v1, v2, v3, S =>
    ck (mc cs 30 0) (
    if (gi S 30 0 1) ≤ v3 then (
      some (v2, S))
    else (
      ck (mc cs 31 23) (
      ck (inb v3 7) (
      if (gi S 31 23 v3.toNatClampNeg) = v1 then (
        lt_ ((v2 ||| ((1 : Int32) <<< (v3 &&& 31)))) (fun x10 =>
        lt_ (v3 + (1 : Int32)) (fun x12 =>
        f_X9_setOf_4 cs N n v1 x10 x12 S)))
      else (
        lt_ ((v2 ||| (0 : Int32))) (fun x6 =>
        lt_ (v3 + (1 : Int32)) (fun x8 =>
        f_X9_setOf_4 cs N n v1 x6 x8 S)))))))
set_option maxHeartbeats 4000000 in
set_option maxRecDepth 100000 in
theorem b_X9_setOf_4 {p : Program} {l : Launch} {e : Env} {s : State} {m : MethodId} {args : Array Value} {below : List Frame} {meth : Method} {c : Code} {D : va_G} {cy : Nat → ClassId} {cs : List (Nat × Nat)} {ad : Nat → Nat → Nat} {Zp : State → Prop} {r : Int32} {Z : HS} (B : Bd p s m args meth c D cy cs ad Zp cX9_setOf 4 RX9 (some .int)) (N : Nat)  : ∀ (n : Nat) (v1 : Int32) (v2 : Int32) (v3 : Int32) (S : HS), f_X9_setOf_4 cs N n v1 v2 v3 S = some (r, Z) → GW p l e rm_X9_setOf s m args below meth c (QM below args s D cy cs ad (some (.int r)) Z) D cy cs ad 0 0 4 4 [(0, .ref (ad 30 0)), (1, .int v1), (2, .int v2), (3, .int v3)] [] S := by
  have hA := B.2.2.2.2.2.2.1
  have hZ := B.2.2.2.2.2.2.2.2.2.2
  intro n
  induction n with
  | zero => intro v1 v2 v3 S h; cases h
  | succ n ih =>
    intro v1 v2 v3 S h
    rw [f_X9_setOf_4] at h
    refine g_iload_n B dX9_setOf_4 3 rfl rfl ?_
    refine g_aload_n B dX9_setOf_5 0 rfl rfl ?_
    obtain ⟨m1, h⟩ := ck_e h
    refine gt_X9_1 B m1 kf_X9_111 dX9_setOf_6 ?_
    refine g_icmp_ge B 38 dX9_setOf_9 (by decide) (fun q2 => ?_) (fun q2 => ?_)
    · have h := if_t h q2
      refine g_iload_n B dX9_setOf_38 2 rfl rfl ?_
      obtain ⟨rfl, rfl⟩ := some_e h
      exact g_iret B dX9_setOf_39
    · have h := if_f h q2
      refine g_iload_n B dX9_setOf_12 2 rfl rfl ?_
      refine g_aload_n B dX9_setOf_13 0 rfl rfl ?_
      refine gt_X9_40 B m1 kf_X9_90 dX9_setOf_14 ?_
      refine g_iload_n B dX9_setOf_17 3 rfl rfl ?_
      obtain ⟨m3, h⟩ := ck_e h
      obtain ⟨b4, h⟩ := ck_e h
      refine g_iald (n := 7) B m3 (fun _ => rfl) b4 dX9_setOf_18 ?_
      refine g_iload_n B dX9_setOf_19 1 rfl rfl ?_
      refine g_icmp_ne B 29 dX9_setOf_20 (by decide) (fun q5 => ?_) (fun q5 => ?_)
      · have h := if_f h q5
        refine g_iconst (v := (0 : Int32)) B dX9_setOf_29 (by decide) ?_
        refine g_ior B dX9_setOf_30 ?_
        obtain ⟨x6, e7, h⟩ := lt_e h
        refine g_topi e7 ?_
        refine g_istore_n (lv' := [(2, .int x6), (0, .ref (ad 30 0)), (1, .int v1), (3, .int v3)]) B dX9_setOf_31 rfl (by decide) rfl ?_
        obtain ⟨x8, e9, h⟩ := lt_e h
        refine g_iinc (v := x8) (lv' := [(3, .int x8), (2, .int x6), (0, .ref (ad 30 0)), (1, .int v1)]) B dX9_setOf_32 (k := 3) rfl (by rw [e9]; rfl) (by decide) rfl ?_
        refine g_goto B 4 dX9_setOf_35 (by decide) ?_
        refine g_sub [2, 3, 1, 0] rfl ?_
        exact ih _ _ _ _ h
      · have h := if_t h q5
        refine g_iconst (v := (1 : Int32)) B dX9_setOf_23 (by decide) ?_
        refine g_iload_n B dX9_setOf_24 3 rfl rfl ?_
        refine g_ishl B dX9_setOf_25 ?_
        refine g_goto B 30 dX9_setOf_26 (by decide) ?_
        refine g_ior B dX9_setOf_30 ?_
        obtain ⟨x10, e11, h⟩ := lt_e h
        refine g_topi e11 ?_
        refine g_istore_n (lv' := [(2, .int x10), (0, .ref (ad 30 0)), (1, .int v1), (3, .int v3)]) B dX9_setOf_31 rfl (by decide) rfl ?_
        obtain ⟨x12, e13, h⟩ := lt_e h
        refine g_iinc (v := x12) (lv' := [(3, .int x12), (2, .int x10), (0, .ref (ad 30 0)), (1, .int v1)]) B dX9_setOf_32 (k := 3) rfl (by rw [e13]; rfl) (by decide) rfl ?_
        refine g_goto B 4 dX9_setOf_35 (by decide) ?_
        refine g_sub [2, 3, 1, 0] rfl ?_
        exact ih _ _ _ _ h
def f_X9_setOf (cs : List (Nat × Nat)) (N : Nat) (a1 : Int32) (S : HS) : Option (Int32 × HS) :=
  f_X9_setOf_4 cs N N a1 (0 : Int32) (0 : Int32) S
set_option maxHeartbeats 4000000 in
set_option maxRecDepth 100000 in
theorem c_X9_setOf {l : Launch} {D : va_G} {cy : Nat → ClassId} {cs : List (Nat × Nat)} {ad : Nat → Nat → Nat} {Zp : State → Prop} (hA : AdOk cs ad) (hZ : ZOk cs ad Zp) (N : Nat) (a1 : Int32) (S : HS) (r : Int32) (Z : HS) (h : f_X9_setOf cs N a1 S = some (r, Z)) : Ctr Zp l yX9_setOf cX9_setOf 4 (some .int) rm_X9_setOf D cy cs ad [.ref (ad 30 0), .int a1] S (some (.int r)) Z := by
  unfold f_X9_setOf at h
  refine Ctr.of hA hZ RX9 (plainFor_of_name (by decide)) rfl [(0, .ref (ad 30 0)), (1, .int a1)] rfl (Nat.le_of_ble_eq_true rfl) (fun p e s m below meth c B => ?_)
  refine g_iconst (v := (0 : Int32)) B dX9_setOf_0 (by decide) ?_
  refine g_istore_n (lv' := [(2, .int (0 : Int32)), (0, .ref (ad 30 0)), (1, .int a1)]) B dX9_setOf_1 rfl (by decide) rfl ?_
  refine g_iconst (v := (0 : Int32)) B dX9_setOf_2 (by decide) ?_
  refine g_istore_n (lv' := [(3, .int (0 : Int32)), (2, .int (0 : Int32)), (0, .ref (ad 30 0)), (1, .int a1)]) B dX9_setOf_3 rfl (by decide) rfl ?_
  refine g_sub [2, 3, 1, 0] rfl ?_
  exact b_X9_setOf_4 B N N _ _ _ _ h
