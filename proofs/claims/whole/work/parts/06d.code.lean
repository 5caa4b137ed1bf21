def rm_X9_best : Room := { frames := 13, cells := 0, slots := 0, locals := 305 }
def f_X9_best (cs : List (Nat × Nat)) (N : Nat) (a1 : Int32) (S : HS) : Option (Int32 × HS) :=
  ck (mc cs 30 0) (
  ob (f_X9_finds cs N  S) (fun r2 S3 =>
  if a1 = 0 then (
    some ((gi S3 30 0 42), S3))
  else (
    if a1 = (1 : Int32) then (
      some ((gi S3 30 0 43), S3))
    else (
      ob (f_X9_isIn cs N a1 (10 : Int32) ((9 : Int32) + (gi S3 30 0 1)) S3) (fun r7 S8 =>
      if r7 = 0 then (
        ob (f_X9_isIn cs N a1 (20 : Int32) ((19 : Int32) + (gi S8 30 0 1)) S8) (fun r11 S12 =>
        if r11 = 0 then (
          some ((-1 : Int32), S12))
        else (
          ck (mc cs 31 23) (
          ck (inb (a1 - (20 : Int32)) 7) (
          if (gi S12 31 23 (a1 - (20 : Int32)).toNatClampNeg) = (-1 : Int32) then (
            some ((-1 : Int32), S12))
          else (
            ck (inb (a1 - (20 : Int32)) 7) (
            ck (inb (a1 - (20 : Int32)) 7) (
            ob (f_X9_setOf cs N (gi S12 31 23 (a1 - (20 : Int32)).toNatClampNeg) S12) (fun r20 S21 =>
            ob (f_X9_does cs N (gi S12 31 23 (a1 - (20 : Int32)).toNatClampNeg) r20 S21) (fun r23 S24 =>
            if r23 = 0 then (
              some ((-1 : Int32), S24))
            else (
              ck (mc cs 31 21) (
              ck (inb (a1 - (20 : Int32)) 7) (
              some ((gi S24 31 21 (a1 - (20 : Int32)).toNatClampNeg), S24))))))))))))))
      else (
        ck (mc cs 31 23) (
        ck (inb (a1 - (10 : Int32)) 7) (
        some ((gi S8 31 23 (a1 - (10 : Int32)).toNatClampNeg), S8)))))))))
set_option maxHeartbeats 4000000 in
set_option maxRecDepth 100000 in
theorem c_X9_best {l : Launch} {D : va_G} {cy : Nat → ClassId} {cs : List (Nat × Nat)} {ad : Nat → Nat → Nat} {Zp : State → Prop} (hA : AdOk cs ad) (hZ : ZOk cs ad Zp) (N : Nat) (a1 : Int32) (S : HS) (r : Int32) (Z : HS) (h : f_X9_best cs N a1 S = some (r, Z)) : Ctr Zp l yX9_best cX9_best 3 (some .int) rm_X9_best D cy cs ad [.ref (ad 30 0), .int a1] S (some (.int r)) Z := by
  unfold f_X9_best at h
  refine Ctr.of hA hZ RX9 (plainFor_of_name (by decide)) rfl [(0, .ref (ad 30 0)), (1, .int a1)] rfl (Nat.le_of_ble_eq_true rfl) (fun p e s m below meth c B => ?_)
  refine g_aload_n B dX9_best_0 0 rfl rfl ?_
  obtain ⟨m1, h⟩ := ck_e h
  obtain ⟨r2, S3, e4, h⟩ := ob_e h
  refine g_cvv (rest := []) B (c_X9_finds hA hZ N  _ _ _ e4) mf_X9_finds km_X9_236 ⟨by decide, by decide⟩ ⟨rfl, rfl⟩ m1 rfl rfl rfl rfl (Nat.le_of_ble_eq_true rfl) ⟨Nat.zero_le _, Nat.zero_le _⟩ dX9_best_1 ?_
  refine g_iload_n B dX9_best_4 1 rfl rfl ?_
  refine g_if_ne B 13 dX9_best_5 (by decide) (fun q5 => ?_) (fun q5 => ?_)
  · have h := if_f h q5
    refine g_iload_n B dX9_best_13 1 rfl rfl ?_
    refine g_iconst (v := (1 : Int32)) B dX9_best_14 (by decide) ?_
    refine g_icmp_ne B 23 dX9_best_15 (by decide) (fun q6 => ?_) (fun q6 => ?_)
    · have h := if_f h q6
      refine g_iload_n B dX9_best_23 1 rfl rfl ?_
      refine g_bipush (v := (10 : Int32)) B dX9_best_24 (by decide) ?_
      refine g_bipush (v := (9 : Int32)) B dX9_best_26 (by decide) ?_
      refine g_aload_n B dX9_best_28 0 rfl rfl ?_
      refine gt_X9_1 B m1 kf_X9_111 dX9_best_29 ?_
      refine g_iadd B dX9_best_32 ?_
      obtain ⟨r7, S8, e9, h⟩ := ob_e h
      refine g_csi (rest := []) B (c_X9_isIn hA hZ N _ _ _ _ _ _ e9) mf_X9_isIn km_X9_96 ⟨by decide, by decide⟩ ⟨rfl, rfl⟩ rfl rfl (Nat.le_of_ble_eq_true rfl) ⟨Nat.zero_le _, Nat.zero_le _⟩ dX9_best_33 ?_
      refine g_if_eq B 49 dX9_best_36 (by decide) (fun q10 => ?_) (fun q10 => ?_)
      · have h := if_t h q10
        refine g_iload_n B dX9_best_49 1 rfl rfl ?_
        refine g_bipush (v := (20 : Int32)) B dX9_best_50 (by decide) ?_
        refine g_bipush (v := (19 : Int32)) B dX9_best_52 (by decide) ?_
        refine g_aload_n B dX9_best_54 0 rfl rfl ?_
        refine gt_X9_1 B m1 kf_X9_111 dX9_best_55 ?_
        refine g_iadd B dX9_best_58 ?_
        obtain ⟨r11, S12, e13, h⟩ := ob_e h
        refine g_csi (rest := []) B (c_X9_isIn hA hZ N _ _ _ _ _ _ e13) mf_X9_isIn km_X9_96 ⟨by decide, by decide⟩ ⟨rfl, rfl⟩ rfl rfl (Nat.le_of_ble_eq_true rfl) ⟨Nat.zero_le _, Nat.zero_le _⟩ dX9_best_59 ?_
        refine g_if_eq B 78 dX9_best_62 (by decide) (fun q14 => ?_) (fun q14 => ?_)
        · have h := if_t h q14
          refine g_iconst (v := (-1 : Int32)) B dX9_best_78 (by decide) ?_
          obtain ⟨rfl, rfl⟩ := some_e h
          exact g_iret B dX9_best_79
        · have h := if_f h q14
          refine g_aload_n B dX9_best_65 0 rfl rfl ?_
          refine gt_X9_40 B m1 kf_X9_90 dX9_best_66 ?_
          refine g_iload_n B dX9_best_69 1 rfl rfl ?_
          refine g_bipush (v := (20 : Int32)) B dX9_best_70 (by decide) ?_
          refine g_isub B dX9_best_72 ?_
          obtain ⟨m15, h⟩ := ck_e h
          obtain ⟨b16, h⟩ := ck_e h
          refine g_iald (n := 7) B m15 (fun _ => rfl) b16 dX9_best_73 ?_
          refine g_iconst (v := (-1 : Int32)) B dX9_best_74 (by decide) ?_
          refine g_icmp_ne B 80 dX9_best_75 (by decide) (fun q17 => ?_) (fun q17 => ?_)
          · have h := if_f h q17
            refine g_aload_n B dX9_best_80 0 rfl rfl ?_
            refine g_aload_n B dX9_best_81 0 rfl rfl ?_
            refine gt_X9_40 B m1 kf_X9_90 dX9_best_82 ?_
            refine g_iload_n B dX9_best_85 1 rfl rfl ?_
            refine g_bipush (v := (20 : Int32)) B dX9_best_86 (by decide) ?_
            refine g_isub B dX9_best_88 ?_
            obtain ⟨b18, h⟩ := ck_e h
            refine g_iald (n := 7) B m15 (fun _ => rfl) b18 dX9_best_89 ?_
            refine g_aload_n B dX9_best_90 0 rfl rfl ?_
            refine g_aload_n B dX9_best_91 0 rfl rfl ?_
            refine gt_X9_40 B m1 kf_X9_90 dX9_best_92 ?_
            refine g_iload_n B dX9_best_95 1 rfl rfl ?_
            refine g_bipush (v := (20 : Int32)) B dX9_best_96 (by decide) ?_
            refine g_isub B dX9_best_98 ?_
            obtain ⟨b19, h⟩ := ck_e h
            refine g_iald (n := 7) B m15 (fun _ => rfl) b19 dX9_best_99 ?_
            obtain ⟨r20, S21, e22, h⟩ := ob_e h
            refine g_cvi (rest := [.int (gi S12 31 23 (a1 - (20 : Int32)).toNatClampNeg), .ref (ad 30 0)]) B (c_X9_setOf hA hZ N _ _ _ _ e22) mf_X9_setOf km_X9_239 ⟨by decide, by decide⟩ ⟨rfl, rfl⟩ m1 rfl rfl rfl rfl (Nat.le_of_ble_eq_true rfl) ⟨Nat.zero_le _, Nat.zero_le _⟩ dX9_best_100 ?_
            obtain ⟨r23, S24, e25, h⟩ := ob_e h
            refine g_cvi (rest := []) B (c_X9_does hA hZ N _ _ _ _ _ e25) mf_X9_does km_X9_230 ⟨by decide, by decide⟩ ⟨rfl, rfl⟩ m1 rfl rfl rfl rfl (Nat.le_of_ble_eq_true rfl) ⟨Nat.zero_le _, Nat.zero_le _⟩ dX9_best_103 ?_
            refine g_istore_n (lv' := [(2, .int r23), (0, .ref (ad 30 0)), (1, .int a1)]) B dX9_best_106 rfl (by decide) rfl ?_
            refine g_iload_n B dX9_best_107 0 rfl rfl ?_
            refine g_if_eq B 123 dX9_best_108 (by decide) (fun q26 => ?_) (fun q26 => ?_)
            · have h := if_t h q26
              refine g_iconst (v := (-1 : Int32)) B dX9_best_123 (by decide) ?_
              obtain ⟨rfl, rfl⟩ := some_e h
              exact g_iret B dX9_best_124
            · have h := if_f h q26
              refine g_aload_n B dX9_best_111 1 rfl rfl ?_
              refine gt_X9_37 B m1 kf_X9_81 dX9_best_112 ?_
              refine g_iload_n B dX9_best_115 2 rfl rfl ?_
              refine g_bipush (v := (20 : Int32)) B dX9_best_116 (by decide) ?_
              refine g_isub B dX9_best_118 ?_
              obtain ⟨m27, h⟩ := ck_e h
              obtain ⟨b28, h⟩ := ck_e h
              refine g_iald (n := 7) B m27 (fun _ => rfl) b28 dX9_best_119 ?_
              refine g_goto B 124 dX9_best_120 (by decide) ?_
              obtain ⟨rfl, rfl⟩ := some_e h
              exact g_iret B dX9_best_124
          · have h := if_t h q17
            refine g_iconst (v := (-1 : Int32)) B dX9_best_78 (by decide) ?_
            obtain ⟨rfl, rfl⟩ := some_e h
            exact g_iret B dX9_best_79
      · have h := if_f h q10
        refine g_aload_n B dX9_best_39 0 rfl rfl ?_
        refine gt_X9_40 B m1 kf_X9_90 dX9_best_40 ?_
        refine g_iload_n B dX9_best_43 1 rfl rfl ?_
        refine g_bipush (v := (10 : Int32)) B dX9_best_44 (by decide) ?_
        refine g_isub B dX9_best_46 ?_
        obtain ⟨m29, h⟩ := ck_e h
        obtain ⟨b30, h⟩ := ck_e h
        refine g_iald (n := 7) B m29 (fun _ => rfl) b30 dX9_best_47 ?_
        obtain ⟨rfl, rfl⟩ := some_e h
        exact g_iret B dX9_best_48
    · have h := if_t h q6
      refine g_aload_n B dX9_best_18 0 rfl rfl ?_
      refine gt_X9_43 B m1 kf_X9_220 dX9_best_19 ?_
      obtain ⟨rfl, rfl⟩ := some_e h
      exact g_iret B dX9_best_22
  · have h := if_t h q5
    refine g_aload_n B dX9_best_8 0 rfl rfl ?_
    refine gt_X9_42 B m1 kf_X9_217 dX9_best_9 ?_
    obtain ⟨rfl, rfl⟩ := some_e h
    exact g_iret B dX9_best_12

def rm_X9_works : Room := { frames := 1, cells := 0, slots := 0, locals := 23 }
def f_X9_works_67 (cs : List (Nat × Nat)) (N : Nat) (K26 : Int32 → Int32 → Int32 → HS → Option (Unit × HS)) (v1 : Int32) (v2 : Int32) (v3 : Int32) (v4 : Int32) (v5 : Int32) (t0 : Int32) (S : HS) : Option (Unit × HS) :=
  ck (mc cs 30 0) (
  ck (mc cs 31 11) (
  ck (inb v4 7) (
  ck (mc cs 31 14) (
  ck (inb v4 7) (
  lt_ (ui S 31 14 v4.toNatClampNeg (((gi S 31 11 v4.toNatClampNeg) - v5) + t0)) (fun S6 =>
  ck (mc cs 31 15) (
  ck (inb v4 7) (
  lt_ (ui S6 31 15 v4.toNatClampNeg v1) (fun S10 =>
  lt_ ((v2 - t0)) (fun x12 =>
  if v5 ≤ t0 then (
    ck (mc cs 31 13) (
    ck (inb v4 7) (
    lt_ (ui S10 31 13 v4.toNatClampNeg (1 : Int32)) (fun S17 =>
    ck (mc cs 31 1) (
    ck (inb v1 4) (
    ck (mc cs 31 12) (
    ck (inb v4 7) (
    ck (inb v1 4) (
    lt_ (ui S17 31 1 v1.toNatClampNeg ((gi S17 31 1 v1.toNatClampNeg) - (gi S17 31 12 v4.toNatClampNeg))) (fun S24 =>
    ck (mc cs 31 2) (
    ck (inb v1 4) (
    ck (inb v4 7) (
    ck (inb v1 4) (
    lt_ (ui S24 31 2 v1.toNatClampNeg ((gi S24 31 2 v1.toNatClampNeg) + (gi S24 31 12 v4.toNatClampNeg))) (fun S30 =>
    ck (mc cs 31 9) (
    ck (inb v4 7) (
    lt_ (ui S30 30 0 2 ((gi S30 30 0 2) + (gi S30 31 9 v4.toNatClampNeg))) (fun S34 =>
    lt_ (v3 + (1 : Int32)) (fun x36 =>
    K26 v1 x12 x36 S34)))))))))))))))))))
  else (
    lt_ (v3 + (1 : Int32)) (fun x38 =>
    K26 v1 x12 x38 S10))))))))))))
set_option maxHeartbeats 4000000 in
set_option maxRecDepth 100000 in
theorem b_X9_works_67 {p : Program} {l : Launch} {e : Env} {s : State} {m : MethodId} {args : Array Value} {below : List Frame} {meth : Method} {c : Code} {D : va_G} {cy : Nat → ClassId} {cs : List (Nat × Nat)} {ad : Nat → Nat → Nat} {Zp : State → Prop} {r : Unit} {Z : HS} (B : Bd p s m args meth c D cy cs ad Zp cX9_works 7 RX9 none) (N : Nat) (K26 : Int32 → Int32 → Int32 → HS → Option (Unit × HS)) (hK26 : ∀ (v1 : Int32) (v2 : Int32) (v3 : Int32) (S : HS), K26 v1 v2 v3 S = some (r, Z) → GW p l e rm_X9_works s m args below meth c (QM below args s D cy cs ad (none) Z) D cy cs ad 0 0 7 26 [(0, .ref (ad 30 0)), (1, .int v1), (2, .int v2), (3, .int v3)] [] S) (v1 : Int32) (v2 : Int32) (v3 : Int32) (v4 : Int32) (v5 : Int32) (t0 : Int32) (S : HS) (h : f_X9_works_67 cs N K26 v1 v2 v3 v4 v5 t0 S = some (r, Z)) : GW p l e rm_X9_works s m args below meth c (QM below args s D cy cs ad (none) Z) D cy cs ad 0 0 7 67 [(0, .ref (ad 30 0)), (1, .int v1), (2, .int v2), (3, .int v3), (4, .int v4), (5, .int v5)] [.int t0] S := by
  have hA := B.2.2.2.2.2.2.1
  have hZ := B.2.2.2.2.2.2.2.2.2.2
  unfold f_X9_works_67 at h
  refine g_istore (lv' := [(6, .int t0), (0, .ref (ad 30 0)), (1, .int v1), (2, .int v2), (3, .int v3), (4, .int v4), (5, .int v5)]) B dX9_works_67 (by decide) rfl ?_
  refine g_aload_n B dX9_works_69 1 rfl rfl ?_
  obtain ⟨m1, h⟩ := ck_e h
  refine gt_X9_17 B m1 kf_X9_52 dX9_works_70 ?_
  refine g_iload B dX9_works_73 5 rfl ?_
  refine g_aload_n B dX9_works_75 1 rfl rfl ?_
  refine gt_X9_14 B m1 kf_X9_43 dX9_works_76 ?_
  refine g_iload B dX9_works_79 5 rfl ?_
  obtain ⟨m2, h⟩ := ck_e h
  obtain ⟨b3, h⟩ := ck_e h
  refine g_iald (n := 7) B m2 (fun _ => rfl) b3 dX9_works_81 ?_
  refine g_iload B dX9_works_82 6 rfl ?_
  refine g_isub B dX9_works_84 ?_
  refine g_iload B dX9_works_85 0 rfl ?_
  refine g_iadd B dX9_works_87 ?_
  obtain ⟨m4, h⟩ := ck_e h
  obtain ⟨b5, h⟩ := ck_e h
  obtain ⟨S6, e7, h⟩ := lt_e h
  refine g_iast (n := 7) B m4 b5 (fun _ => rfl) e7 dX9_works_88 ?_
  refine g_aload_n B dX9_works_89 1 rfl rfl ?_
  refine gt_X9_18 B m1 kf_X9_55 dX9_works_90 ?_
  refine g_iload B dX9_works_93 5 rfl ?_
  refine g_iload_n B dX9_works_95 2 rfl rfl ?_
  obtain ⟨m8, h⟩ := ck_e h
  obtain ⟨b9, h⟩ := ck_e h
  obtain ⟨S10, e11, h⟩ := lt_e h
  refine g_iast (n := 7) B m8 b9 (fun _ => rfl) e11 dX9_works_96 ?_
  refine g_iload_n B dX9_works_97 3 rfl rfl ?_
  refine g_iload B dX9_works_98 0 rfl ?_
  refine g_isub B dX9_works_100 ?_
  obtain ⟨x12, e13, h⟩ := lt_e h
  refine g_topi e13 ?_
  refine g_istore_n (lv' := [(2, .int x12), (6, .int t0), (0, .ref (ad 30 0)), (1, .int v1), (3, .int v3), (4, .int v4), (5, .int v5)]) B dX9_works_101 rfl (by decide) rfl ?_
  refine g_iload B dX9_works_102 1 rfl ?_
  refine g_iload B dX9_works_104 6 rfl ?_
  refine g_icmp_ge B 112 dX9_works_106 (by decide) (fun q14 => ?_) (fun q14 => ?_)
  · have h := if_t h q14
    refine g_aload_n B dX9_works_112 2 rfl rfl ?_
    refine gt_X9_16 B m1 kf_X9_49 dX9_works_113 ?_
    refine g_iload B dX9_works_116 5 rfl ?_
    refine g_iconst (v := (1 : Int32)) B dX9_works_118 (by decide) ?_
    obtain ⟨m15, h⟩ := ck_e h
    obtain ⟨b16, h⟩ := ck_e h
    obtain ⟨S17, e18, h⟩ := lt_e h
    refine g_iast (n := 7) B m15 b16 (fun _ => rfl) e18 dX9_works_119 ?_
    refine g_aload_n B dX9_works_120 2 rfl rfl ?_
    refine gt_X9_4 B m1 kf_X9_13 dX9_works_121 ?_
    refine g_iload_n B dX9_works_124 3 rfl rfl ?_
    refine g_dup2 B dX9_works_125 rfl rfl ?_
    obtain ⟨m19, h⟩ := ck_e h
    obtain ⟨b20, h⟩ := ck_e h
    refine g_iald (n := 4) B m19 (fun _ => rfl) b20 dX9_works_126 ?_
    refine g_aload_n B dX9_works_127 2 rfl rfl ?_
    refine gt_X9_15 B m1 kf_X9_46 dX9_works_128 ?_
    refine g_iload B dX9_works_131 5 rfl ?_
    obtain ⟨m21, h⟩ := ck_e h
    obtain ⟨b22, h⟩ := ck_e h
    refine g_iald (n := 7) B m21 (fun _ => rfl) b22 dX9_works_133 ?_
    refine g_isub B dX9_works_134 ?_
    obtain ⟨b23, h⟩ := ck_e h
    obtain ⟨S24, e25, h⟩ := lt_e h
    refine g_iast (n := 4) B m19 b23 (fun _ => rfl) e25 dX9_works_135 ?_
    refine g_aload_n B dX9_works_136 2 rfl rfl ?_
    refine gt_X9_5 B m1 kf_X9_16 dX9_works_137 ?_
    refine g_iload_n B dX9_works_140 3 rfl rfl ?_
    refine g_dup2 B dX9_works_141 rfl rfl ?_
    obtain ⟨m26, h⟩ := ck_e h
    obtain ⟨b27, h⟩ := ck_e h
    refine g_iald (n := 4) B m26 (fun _ => rfl) b27 dX9_works_142 ?_
    refine g_aload_n B dX9_works_143 2 rfl rfl ?_
    refine gt_X9_15 B m1 kf_X9_46 dX9_works_144 ?_
    refine g_iload B dX9_works_147 5 rfl ?_
    obtain ⟨b28, h⟩ := ck_e h
    refine g_iald (n := 7) B m21 (fun _ => rfl) b28 dX9_works_149 ?_
    refine g_iadd B dX9_works_150 ?_
    obtain ⟨b29, h⟩ := ck_e h
    obtain ⟨S30, e31, h⟩ := lt_e h
    refine g_iast (n := 4) B m26 b29 (fun _ => rfl) e31 dX9_works_151 ?_
    refine g_aload_n B dX9_works_152 2 rfl rfl ?_
    refine g_dup B dX9_works_153 rfl ?_
    refine gt_X9_2 B m1 kf_X9_233 dX9_works_154 ?_
    refine g_aload_n B dX9_works_157 2 rfl rfl ?_
    refine gt_X9_12 B m1 kf_X9_37 dX9_works_158 ?_
    refine g_iload B dX9_works_161 5 rfl ?_
    obtain ⟨m32, h⟩ := ck_e h
    obtain ⟨b33, h⟩ := ck_e h
    refine g_iald (n := 7) B m32 (fun _ => rfl) b33 dX9_works_163 ?_
    refine g_iadd B dX9_works_164 ?_
    obtain ⟨S34, e35, h⟩ := lt_e h
    refine pt_X9_2 B m1 kf_X9_233 e35 dX9_works_165 ?_
    obtain ⟨x36, e37, h⟩ := lt_e h
    refine g_iinc (v := x36) (lv' := [(3, .int x36), (2, .int x12), (6, .int t0), (0, .ref (ad 30 0)), (1, .int v1), (4, .int v4), (5, .int v5)]) B dX9_works_168 (k := 4) rfl (by rw [e37]; rfl) (by decide) rfl ?_
    refine g_goto B 26 dX9_works_171 (by decide) ?_
    refine g_sub [3, 4, 1, 0] rfl ?_
    exact hK26 _ _ _ _ h
  · have h := if_f h q14
    refine g_goto B 168 dX9_works_109 (by decide) ?_
    obtain ⟨x38, e39, h⟩ := lt_e h
    refine g_iinc (v := x38) (lv' := [(3, .int x38), (2, .int x12), (6, .int t0), (0, .ref (ad 30 0)), (1, .int v1), (4, .int v4), (5, .int v5)]) B dX9_works_168 (k := 4) rfl (by rw [e39]; rfl) (by decide) rfl ?_
    refine g_goto B 26 dX9_works_171 (by decide) ?_
    refine g_sub [3, 4, 1, 0] rfl ?_
    exact hK26 _ _ _ _ h
def f_X9_works_26 (cs : List (Nat × Nat)) (N : Nat)  : Nat → Int32 → Int32 → Int32 → HS → Option (Unit × HS)
  | 0, _, _, _, _ => none
  | n + 1, v1, v2, v3, S =>
    ck (mc cs 30 0) (
    if (gi S 30 0 36) ≤ v3 then (
      some ((), S))
    else (
      if v2 ≤ 0 then (
        some ((), S))
      else (
        ck (mc cs 31 20) (
        ck (inb v3 7) (
        lt_ ((gi S 31 20 v3.toNatClampNeg)) (fun x6 =>
        ob (f_X9_left cs N v1 x6 S) (fun r8 S9 =>
        if v2 ≤ r8 then (
          f_X9_works_67 cs N (f_X9_works_26 cs N n) v1 v2 v3 x6 r8 v2 S9)
        else (
          f_X9_works_67 cs N (f_X9_works_26 cs N n) v1 v2 v3 x6 r8 r8 S9))))))))
set_option maxHeartbeats 4000000 in
set_option maxRecDepth 100000 in
theorem b_X9_works_26 {p : Program} {l : Launch} {e : Env} {s : State} {m : MethodId} {args : Array Value} {below : List Frame} {meth : Method} {c : Code} {D : va_G} {cy : Nat → ClassId} {cs : List (Nat × Nat)} {ad : Nat → Nat → Nat} {Zp : State → Prop} {r : Unit} {Z : HS} (B : Bd p s m args meth c D cy cs ad Zp cX9_works 7 RX9 none) (N : Nat)  : ∀ (n : Nat) (v1 : Int32) (v2 : Int32) (v3 : Int32) (S : HS), f_X9_works_26 cs N n v1 v2 v3 S = some (r, Z) → GW p l e rm_X9_works s m args below meth c (QM below args s D cy cs ad (none) Z) D cy cs ad 0 0 7 26 [(0, .ref (ad 30 0)), (1, .int v1), (2, .int v2), (3, .int v3)] [] S := by
  have hA := B.2.2.2.2.2.2.1
  have hZ := B.2.2.2.2.2.2.2.2.2.2
  intro n
  induction n with
  | zero => intro v1 v2 v3 S h; cases h
  | succ n ih =>
    intro v1 v2 v3 S h
    rw [f_X9_works_26] at h
    refine g_iload_n B dX9_works_26 3 rfl rfl ?_
    refine g_aload_n B dX9_works_27 0 rfl rfl ?_
    obtain ⟨m1, h⟩ := ck_e h
    refine gt_X9_36 B m1 kf_X9_207 dX9_works_28 ?_
    refine g_icmp_ge B 174 dX9_works_31 (by decide) (fun q2 => ?_) (fun q2 => ?_)
    · have h := if_t h q2
      obtain ⟨-, rfl⟩ := some_e h
      exact g_vret B dX9_works_174
    · have h := if_f h q2
      refine g_iload_n B dX9_works_34 2 rfl rfl ?_
      refine g_if_le B 174 dX9_works_35 (by decide) (fun q3 => ?_) (fun q3 => ?_)
      · have h := if_t h q3
        obtain ⟨-, rfl⟩ := some_e h
        exact g_vret B dX9_works_174
      · have h := if_f h q3
        refine g_aload_n B dX9_works_38 0 rfl rfl ?_
        refine gt_X9_35 B m1 kf_X9_78 dX9_works_39 ?_
        refine g_iload_n B dX9_works_42 3 rfl rfl ?_
        obtain ⟨m4, h⟩ := ck_e h
        obtain ⟨b5, h⟩ := ck_e h
        refine g_iald (n := 7) B m4 (fun _ => rfl) b5 dX9_works_43 ?_
        obtain ⟨x6, e7, h⟩ := lt_e h
        refine g_topi e7 ?_
        refine g_istore (lv' := [(4, .int x6), (0, .ref (ad 30 0)), (1, .int v1), (2, .int v2), (3, .int v3)]) B dX9_works_44 (by decide) rfl ?_
        refine g_aload_n B dX9_works_46 1 rfl rfl ?_
        refine g_iload_n B dX9_works_47 2 rfl rfl ?_
        refine g_iload B dX9_works_48 0 rfl ?_
        obtain ⟨r8, S9, e10, h⟩ := ob_e h
        refine g_cvi (rest := []) B (c_X9_left hA hZ N _ _ _ _ _ e10) mf_X9_left km_X9_213 ⟨by decide, by decide⟩ ⟨rfl, rfl⟩ m1 rfl rfl rfl rfl (Nat.le_of_ble_eq_true rfl) ⟨Nat.zero_le _, Nat.zero_le _⟩ dX9_works_50 ?_
        refine g_istore (lv' := [(5, .int r8), (4, .int x6), (0, .ref (ad 30 0)), (1, .int v1), (2, .int v2), (3, .int v3)]) B dX9_works_53 (by decide) rfl ?_
        refine g_iload B dX9_works_55 0 rfl ?_
        refine g_iload_n B dX9_works_57 4 rfl rfl ?_
        refine g_icmp_ge B 66 dX9_works_58 (by decide) (fun q11 => ?_) (fun q11 => ?_)
        · have h := if_t h q11
          refine g_iload_n B dX9_works_66 4 rfl rfl ?_
          refine g_sub [2, 3, 4, 5, 1, 0] rfl ?_
          exact b_X9_works_67 B N _ ih _ _ _ _ _ _ _ h
        · have h := if_f h q11
          refine g_iload B dX9_works_61 0 rfl ?_
          refine g_goto B 67 dX9_works_63 (by decide) ?_
          refine g_sub [2, 3, 4, 5, 1, 0] rfl ?_
          exact b_X9_works_67 B N _ ih _ _ _ _ _ _ _ h
def f_X9_works (cs : List (Nat × Nat)) (N : Nat) (a1 : Int32) (S : HS) : Option (Unit × HS) :=
  ck (mc cs 30 0) (
  ob (f_X9_setOf cs N a1 S) (fun r2 S3 =>
  ob (f_X9_sorts cs N r2 S3) (fun r5 S6 =>
  ck (mc cs 31 0) (
  ck (inb (((52 : Int32) * a1) + (gi S6 30 0 0)) 208) (
  lt_ ((gi S6 31 0 (((52 : Int32) * a1) + (gi S6 30 0 0)).toNatClampNeg)) (fun x10 =>
  f_X9_works_26 cs N N a1 x10 (0 : Int32) S6))))))
set_option maxHeartbeats 4000000 in
set_option maxRecDepth 100000 in
theorem c_X9_works {l : Launch} {D : va_G} {cy : Nat → ClassId} {cs : List (Nat × Nat)} {ad : Nat → Nat → Nat} {Zp : State → Prop} (hA : AdOk cs ad) (hZ : ZOk cs ad Zp) (N : Nat) (a1 : Int32) (S : HS) (r : Unit) (Z : HS) (h : f_X9_works cs N a1 S = some (r, Z)) : Ctr Zp l yX9_works cX9_works 7 none rm_X9_works D cy cs ad [.ref (ad 30 0), .int a1] S (none) Z := by
  unfold f_X9_works at h
  refine Ctr.of hA hZ RX9 (plainFor_of_name (by decide)) rfl [(0, .ref (ad 30 0)), (1, .int a1)] rfl (Nat.le_of_ble_eq_true rfl) (fun p e s m below meth c B => ?_)
  refine g_aload_n B dX9_works_0 0 rfl rfl ?_
  refine g_aload_n B dX9_works_1 0 rfl rfl ?_
  refine g_iload_n B dX9_works_2 1 rfl rfl ?_
  obtain ⟨m1, h⟩ := ck_e h
  obtain ⟨r2, S3, e4, h⟩ := ob_e h
  refine g_cvi (rest := [.ref (ad 30 0)]) B (c_X9_setOf hA hZ N _ _ _ _ e4) mf_X9_setOf km_X9_239 ⟨by decide, by decide⟩ ⟨rfl, rfl⟩ m1 rfl rfl rfl rfl (Nat.le_of_ble_eq_true rfl) ⟨Nat.zero_le _, Nat.zero_le _⟩ dX9_works_3 ?_
  obtain ⟨r5, S6, e7, h⟩ := ob_e h
  refine g_cvv (rest := []) B (c_X9_sorts hA hZ N _ _ _ _ e7) mf_X9_sorts km_X9_210 ⟨by decide, by decide⟩ ⟨rfl, rfl⟩ m1 rfl rfl rfl rfl (Nat.le_of_ble_eq_true rfl) ⟨Nat.zero_le _, Nat.zero_le _⟩ dX9_works_6 ?_
  refine g_aload_n B dX9_works_9 0 rfl rfl ?_
  refine gt_X9_3 B m1 kf_X9_7 dX9_works_10 ?_
  refine g_bipush (v := (52 : Int32)) B dX9_works_13 (by decide) ?_
  refine g_iload_n B dX9_works_15 1 rfl rfl ?_
  refine g_imul B dX9_works_16 ?_
  refine g_aload_n B dX9_works_17 0 rfl rfl ?_
  refine gt_X9_0 B m1 kf_X9_104 dX9_works_18 ?_
  refine g_iadd B dX9_works_21 ?_
  obtain ⟨m8, h⟩ := ck_e h
  obtain ⟨b9, h⟩ := ck_e h
  refine g_iald (n := 208) B m8 (fun _ => rfl) b9 dX9_works_22 ?_
  obtain ⟨x10, e11, h⟩ := lt_e h
  refine g_topi e11 ?_
  refine g_istore_n (lv' := [(2, .int x10), (0, .ref (ad 30 0)), (1, .int a1)]) B dX9_works_23 rfl (by decide) rfl ?_
  refine g_iconst (v := (0 : Int32)) B dX9_works_24 (by decide) ?_
  refine g_istore_n (lv' := [(3, .int (0 : Int32)), (2, .int x10), (0, .ref (ad 30 0)), (1, .int a1)]) B dX9_works_25 rfl (by decide) rfl ?_
  refine g_sub [2, 3, 1, 0] rfl ?_
  exact b_X9_works_26 B N N _ _ _ _ h

def rm_X9_work : Room := { frames := 13, cells := 0, slots := 0, locals := 305 }
def f_X9_work_45 (cs : List (Nat × Nat)) (N : Nat)  : Nat → Int32 → HS → Option (Int32 × HS)
  | 0, _, _ => none
  | n + 1, v1, S =>
    ck (mc cs 30 0) (
    if (gi S 30 0 1) ≤ v1 then (
      some ((gi S 30 0 0), S))
    else (
      ob (f_X9_isOpen cs N v1 S) (fun r3 S4 =>
      if r3 = 0 then (
        lt_ (v1 + (1 : Int32)) (fun x7 =>
        f_X9_work_45 cs N n x7 S4))
      else (
        ck (mc cs 31 8) (
        ck (inb v1 7) (
        if (gi S4 30 0 0) ≤ (gi S4 31 8 v1.toNatClampNeg) then (
          lt_ (v1 + (1 : Int32)) (fun x12 =>
          f_X9_work_45 cs N n x12 S4))
        else (
          ck (mc cs 31 13) (
          ck (inb v1 7) (
          lt_ (ui S4 31 13 v1.toNatClampNeg (3 : Int32)) (fun S16 =>
          lt_ (v1 + (1 : Int32)) (fun x18 =>
          f_X9_work_45 cs N n x18 S16)))))))))))
set_option maxHeartbeats 4000000 in
set_option maxRecDepth 100000 in
theorem b_X9_work_45 {p : Program} {l : Launch} {e : Env} {s : State} {m : MethodId} {args : Array Value} {below : List Frame} {meth : Method} {c : Code} {D : va_G} {cy : Nat → ClassId} {cs : List (Nat × Nat)} {ad : Nat → Nat → Nat} {Zp : State → Prop} {r : Int32} {Z : HS} (B : Bd p s m args meth c D cy cs ad Zp cX9_work 2 RX9 (some .int)) (N : Nat)  : ∀ (n : Nat) (v1 : Int32) (S : HS), f_X9_work_45 cs N n v1 S = some (r, Z) → GW p l e rm_X9_work s m args below meth c (QM below args s D cy cs ad (some (.int r)) Z) D cy cs ad 0 0 2 45 [(0, .ref (ad 30 0)), (1, .int v1)] [] S := by
  have hA := B.2.2.2.2.2.2.1
  have hZ := B.2.2.2.2.2.2.2.2.2.2
  intro n
  induction n with
  | zero => intro v1 S h; cases h
  | succ n ih =>
    intro v1 S h
    rw [f_X9_work_45] at h
    refine g_iload_n B dX9_work_45 1 rfl rfl ?_
    refine g_aload_n B dX9_work_46 0 rfl rfl ?_
    obtain ⟨m1, h⟩ := ck_e h
    refine gt_X9_1 B m1 kf_X9_111 dX9_work_47 ?_
    refine g_icmp_ge B 87 dX9_work_50 (by decide) (fun q2 => ?_) (fun q2 => ?_)
    · have h := if_t h q2
      refine g_aload_n B dX9_work_87 0 rfl rfl ?_
      refine gt_X9_0 B m1 kf_X9_104 dX9_work_88 ?_
      obtain ⟨rfl, rfl⟩ := some_e h
      exact g_iret B dX9_work_91
    · have h := if_f h q2
      refine g_aload_n B dX9_work_53 0 rfl rfl ?_
      refine g_iload_n B dX9_work_54 1 rfl rfl ?_
      obtain ⟨r3, S4, e5, h⟩ := ob_e h
      refine g_cvi (rest := []) B (c_X9_isOpen hA hZ N _ _ _ _ e5) mf_X9_isOpen km_X9_117 ⟨by decide, by decide⟩ ⟨rfl, rfl⟩ m1 rfl rfl rfl rfl (Nat.le_of_ble_eq_true rfl) ⟨Nat.zero_le _, Nat.zero_le _⟩ dX9_work_55 ?_
      refine g_if_eq B 81 dX9_work_58 (by decide) (fun q6 => ?_) (fun q6 => ?_)
      · have h := if_t h q6
        obtain ⟨x7, e8, h⟩ := lt_e h
        refine g_iinc (v := x7) (lv' := [(1, .int x7), (0, .ref (ad 30 0))]) B dX9_work_81 (k := 1) rfl (by rw [e8]; rfl) (by decide) rfl ?_
        refine g_goto B 45 dX9_work_84 (by decide) ?_
        refine g_sub [1, 0] rfl ?_
        exact ih _ _ h
      · have h := if_f h q6
        refine g_aload_n B dX9_work_61 0 rfl rfl ?_
        refine gt_X9_11 B m1 kf_X9_34 dX9_work_62 ?_
        refine g_iload_n B dX9_work_65 1 rfl rfl ?_
        obtain ⟨m9, h⟩ := ck_e h
        obtain ⟨b10, h⟩ := ck_e h
        refine g_iald (n := 7) B m9 (fun _ => rfl) b10 dX9_work_66 ?_
        refine g_aload_n B dX9_work_67 0 rfl rfl ?_
        refine gt_X9_0 B m1 kf_X9_104 dX9_work_68 ?_
        refine g_icmp_ge B 81 dX9_work_71 (by decide) (fun q11 => ?_) (fun q11 => ?_)
        · have h := if_t h q11
          obtain ⟨x12, e13, h⟩ := lt_e h
          refine g_iinc (v := x12) (lv' := [(1, .int x12), (0, .ref (ad 30 0))]) B dX9_work_81 (k := 1) rfl (by rw [e13]; rfl) (by decide) rfl ?_
          refine g_goto B 45 dX9_work_84 (by decide) ?_
          refine g_sub [1, 0] rfl ?_
          exact ih _ _ h
        · have h := if_f h q11
          refine g_aload_n B dX9_work_74 0 rfl rfl ?_
          refine gt_X9_16 B m1 kf_X9_49 dX9_work_75 ?_
          refine g_iload_n B dX9_work_78 1 rfl rfl ?_
          refine g_iconst (v := (3 : Int32)) B dX9_work_79 (by decide) ?_
          obtain ⟨m14, h⟩ := ck_e h
          obtain ⟨b15, h⟩ := ck_e h
          obtain ⟨S16, e17, h⟩ := lt_e h
          refine g_iast (n := 7) B m14 b15 (fun _ => rfl) e17 dX9_work_80 ?_
          obtain ⟨x18, e19, h⟩ := lt_e h
          refine g_iinc (v := x18) (lv' := [(1, .int x18), (0, .ref (ad 30 0))]) B dX9_work_81 (k := 1) rfl (by rw [e19]; rfl) (by decide) rfl ?_
          refine g_goto B 45 dX9_work_84 (by decide) ?_
          refine g_sub [1, 0] rfl ?_
          exact ih _ _ h
def f_X9_work_17 (cs : List (Nat × Nat)) (N : Nat)  : Nat → Int32 → HS → Option (Int32 × HS)
  | 0, _, _ => none
  | n + 1, v1, S =>
    if (4 : Int32) ≤ v1 then (
      ck (mc cs 30 0) (
      lt_ (ui S 30 0 0 ((gi S 30 0 0) + (1 : Int32))) (fun S3 =>
      f_X9_work_45 cs N N (0 : Int32) S3)))
    else (
      ck (mc cs 30 0) (
      ob (f_X9_works cs N v1 S) (fun r6 S7 =>
      lt_ (v1 + (1 : Int32)) (fun x9 =>
      f_X9_work_17 cs N n x9 S7))))
set_option maxHeartbeats 4000000 in
set_option maxRecDepth 100000 in
theorem b_X9_work_17 {p : Program} {l : Launch} {e : Env} {s : State} {m : MethodId} {args : Array Value} {below : List Frame} {meth : Method} {c : Code} {D : va_G} {cy : Nat → ClassId} {cs : List (Nat × Nat)} {ad : Nat → Nat → Nat} {Zp : State → Prop} {r : Int32} {Z : HS} (B : Bd p s m args meth c D cy cs ad Zp cX9_work 2 RX9 (some .int)) (N : Nat)  : ∀ (n : Nat) (v1 : Int32) (S : HS), f_X9_work_17 cs N n v1 S = some (r, Z) → GW p l e rm_X9_work s m args below meth c (QM below args s D cy cs ad (some (.int r)) Z) D cy cs ad 0 0 2 17 [(0, .ref (ad 30 0)), (1, .int v1)] [] S := by
  have hA := B.2.2.2.2.2.2.1
  have hZ := B.2.2.2.2.2.2.2.2.2.2
  intro n
  induction n with
  | zero => intro v1 S h; cases h
  | succ n ih =>
    intro v1 S h
    rw [f_X9_work_17] at h
    refine g_iload_n B dX9_work_17 1 rfl rfl ?_
    refine g_iconst (v := (4 : Int32)) B dX9_work_18 (by decide) ?_
    refine g_icmp_ge B 33 dX9_work_19 (by decide) (fun q1 => ?_) (fun q1 => ?_)
    · have h := if_t h q1
      refine g_aload_n B dX9_work_33 0 rfl rfl ?_
      refine g_dup B dX9_work_34 rfl ?_
      obtain ⟨m2, h⟩ := ck_e h
      refine gt_X9_0 B m2 kf_X9_104 dX9_work_35 ?_
      refine g_iconst (v := (1 : Int32)) B dX9_work_38 (by decide) ?_
      refine g_iadd B dX9_work_39 ?_
      obtain ⟨S3, e4, h⟩ := lt_e h
      refine pt_X9_0 B m2 kf_X9_104 e4 dX9_work_40 ?_
      refine g_iconst (v := (0 : Int32)) B dX9_work_43 (by decide) ?_
      refine g_istore_n (lv' := [(1, .int (0 : Int32)), (0, .ref (ad 30 0))]) B dX9_work_44 rfl (by decide) rfl ?_
      refine g_sub [1, 0] rfl ?_
      exact b_X9_work_45 B N N _ _ h
    · have h := if_f h q1
      refine g_aload_n B dX9_work_22 0 rfl rfl ?_
      refine g_iload_n B dX9_work_23 1 rfl rfl ?_
      obtain ⟨m5, h⟩ := ck_e h
      obtain ⟨r6, S7, e8, h⟩ := ob_e h
      refine g_cvv (rest := []) B (c_X9_works hA hZ N _ _ _ _ e8) mf_X9_works km_X9_242 ⟨by decide, by decide⟩ ⟨rfl, rfl⟩ m5 rfl rfl rfl rfl (Nat.le_of_ble_eq_true rfl) ⟨Nat.zero_le _, Nat.zero_le _⟩ dX9_work_24 ?_
      obtain ⟨x9, e10, h⟩ := lt_e h
      refine g_iinc (v := x9) (lv' := [(1, .int x9), (0, .ref (ad 30 0))]) B dX9_work_27 (k := 1) rfl (by rw [e10]; rfl) (by decide) rfl ?_
      refine g_goto B 17 dX9_work_30 (by decide) ?_
      refine g_sub [1, 0] rfl ?_
      exact ih _ _ h
def f_X9_work (cs : List (Nat × Nat)) (N : Nat)  (S : HS) : Option (Int32 × HS) :=
  ck (mc cs 30 0) (
  if (gi S 30 0 0) = (51 : Int32) then (
    some ((-1 : Int32), S))
  else (
    ob (f_X9_finds cs N  S) (fun r3 S4 =>
    f_X9_work_17 cs N N (0 : Int32) S4)))
set_option maxHeartbeats 4000000 in
set_option maxRecDepth 100000 in
theorem c_X9_work {l : Launch} {D : va_G} {cy : Nat → ClassId} {cs : List (Nat × Nat)} {ad : Nat → Nat → Nat} {Zp : State → Prop} (hA : AdOk cs ad) (hZ : ZOk cs ad Zp) (N : Nat)  (S : HS) (r : Int32) (Z : HS) (h : f_X9_work cs N  S = some (r, Z)) : Ctr Zp l yX9_work cX9_work 2 (some .int) rm_X9_work D cy cs ad [.ref (ad 30 0)] S (some (.int r)) Z := by
  unfold f_X9_work at h
  refine Ctr.of hA hZ RX9 (plainFor_of_name (by decide)) rfl [(0, .ref (ad 30 0))] rfl (Nat.le_of_ble_eq_true rfl) (fun p e s m below meth c B => ?_)
  refine g_aload_n B dX9_work_0 0 rfl rfl ?_
  obtain ⟨m1, h⟩ := ck_e h
  refine gt_X9_0 B m1 kf_X9_104 dX9_work_1 ?_
  refine g_bipush (v := (51 : Int32)) B dX9_work_4 (by decide) ?_
  refine g_icmp_ne B 11 dX9_work_6 (by decide) (fun q2 => ?_) (fun q2 => ?_)
  · have h := if_f h q2
    refine g_aload_n B dX9_work_11 0 rfl rfl ?_
    obtain ⟨r3, S4, e5, h⟩ := ob_e h
    refine g_cvv (rest := []) B (c_X9_finds hA hZ N  _ _ _ e5) mf_X9_finds km_X9_236 ⟨by decide, by decide⟩ ⟨rfl, rfl⟩ m1 rfl rfl rfl rfl (Nat.le_of_ble_eq_true rfl) ⟨Nat.zero_le _, Nat.zero_le _⟩ dX9_work_12 ?_
    refine g_iconst (v := (0 : Int32)) B dX9_work_15 (by decide) ?_
    refine g_istore_n (lv' := [(1, .int (0 : Int32)), (0, .ref (ad 30 0))]) B dX9_work_16 rfl (by decide) rfl ?_
    refine g_sub [1, 0] rfl ?_
    exact b_X9_work_17 B N N _ _ h
  · have h := if_t h q2
    refine g_iconst (v := (-1 : Int32)) B dX9_work_9 (by decide) ?_
    obtain ⟨rfl, rfl⟩ := some_e h
    exact g_iret B dX9_work_10

def rm_X0_lay : Room := { frames := 1, cells := 0, slots := 0, locals := 23 }
def f_X0_lay_94 (cs : List (Nat × Nat)) (N : Nat) (K19 : Nat → Nat → Nat → Int32 → Int32 → Int32 → HS → Option (Int32 × HS)) (k1 : Nat) (k2 : Nat) (k3 : Nat) (v4 : Int32) (v5 : Int32) (v6 : Int32) (v7 : Int32) (S : HS) : Option (Int32 × HS) :=
  if v7 < v4 then (
    lt_ ((v4 - v7)) (fun x2 =>
    lt_ (v6 + (1 : Int32)) (fun x4 =>
    K19 k1 k2 k3 x2 v5 x4 S)))
  else (
    ck (mc cs 14 0) (
    lt_ (ui S 14 0 0 v6) (fun S7 =>
    lt_ (ui S7 14 0 1 (v7 - v4)) (fun S9 =>
    some ((1 : Int32), S9)))))
set_option maxHeartbeats 4000000 in
set_option maxRecDepth 100000 in
theorem b_X0_lay_94 {p : Program} {l : Launch} {e : Env} {s : State} {m : MethodId} {args : Array Value} {below : List Frame} {meth : Method} {c : Code} {D : va_G} {cy : Nat → ClassId} {cs : List (Nat × Nat)} {ad : Nat → Nat → Nat} {Zp : State → Prop} {r : Int32} {Z : HS} (B : Bd p s m args meth c D cy cs ad Zp cX0_lay 8 RX0 (some .boolean)) (N : Nat) (K19 : Nat → Nat → Nat → Int32 → Int32 → Int32 → HS → Option (Int32 × HS)) (hK19 : ∀ (k1 : Nat) (k2 : Nat) (k3 : Nat) (v4 : Int32) (v5 : Int32) (v6 : Int32) (S : HS), K19 k1 k2 k3 v4 v5 v6 S = some (r, Z) → GW p l e rm_X0_lay s m args below meth c (QM below args s D cy cs ad (some (.int r)) Z) D cy cs ad 0 0 8 19 [(0, .ref (ad 14 0)), (1, .ref (ad 7 k1)), (2, .ref (ad 4 k2)), (3, .ref (ad 20 k3)), (4, .int v4), (5, .int v5), (6, .int v6)] [] S) (k1 : Nat) (k2 : Nat) (k3 : Nat) (v4 : Int32) (v5 : Int32) (v6 : Int32) (v7 : Int32) (S : HS) (h : f_X0_lay_94 cs N K19 k1 k2 k3 v4 v5 v6 v7 S = some (r, Z)) : GW p l e rm_X0_lay s m args below meth c (QM below args s D cy cs ad (some (.int r)) Z) D cy cs ad 0 0 8 94 [(0, .ref (ad 14 0)), (1, .ref (ad 7 k1)), (2, .ref (ad 4 k2)), (3, .ref (ad 20 k3)), (4, .int v4), (5, .int v5), (6, .int v6), (7, .int v7)] [] S := by
  have hA := B.2.2.2.2.2.2.1
  have hZ := B.2.2.2.2.2.2.2.2.2.2
  unfold f_X0_lay_94 at h
  refine g_iload B dX0_lay_94 4 rfl ?_
  refine g_iload B dX0_lay_96 7 rfl ?_
  refine g_icmp_gt B 118 dX0_lay_98 (by decide) (fun q1 => ?_) (fun q1 => ?_)
  · have h := if_t h q1
    refine g_iload B dX0_lay_118 4 rfl ?_
    refine g_iload B dX0_lay_120 7 rfl ?_
    refine g_isub B dX0_lay_122 ?_
    obtain ⟨x2, e3, h⟩ := lt_e h
    refine g_topi e3 ?_
    refine g_istore (lv' := [(4, .int x2), (0, .ref (ad 14 0)), (1, .ref (ad 7 k1)), (2, .ref (ad 4 k2)), (3, .ref (ad 20 k3)), (5, .int v5), (6, .int v6), (7, .int v7)]) B dX0_lay_123 (by decide) rfl ?_
    obtain ⟨x4, e5, h⟩ := lt_e h
    refine g_iinc (v := x4) (lv' := [(6, .int x4), (4, .int x2), (0, .ref (ad 14 0)), (1, .ref (ad 7 k1)), (2, .ref (ad 4 k2)), (3, .ref (ad 20 k3)), (5, .int v5), (7, .int v7)]) B dX0_lay_125 (k := 6) rfl (by rw [e5]; rfl) (by decide) rfl ?_
    refine g_goto B 19 dX0_lay_128 (by decide) ?_
    refine g_sub [2, 3, 4, 5, 1, 6, 0] rfl ?_
    exact hK19 _ _ _ _ _ _ _ h
  · have h := if_f h q1
    refine g_aload_n B dX0_lay_101 0 rfl rfl ?_
    refine g_iload B dX0_lay_102 6 rfl ?_
    obtain ⟨m6, h⟩ := ck_e h
    obtain ⟨S7, e8, h⟩ := lt_e h
    refine pt_X0_0 B m6 kf_X0_19 e8 dX0_lay_104 ?_
    refine g_aload_n B dX0_lay_107 0 rfl rfl ?_
    refine g_iload B dX0_lay_108 7 rfl ?_
    refine g_iload B dX0_lay_110 4 rfl ?_
    refine g_isub B dX0_lay_112 ?_
    obtain ⟨S9, e10, h⟩ := lt_e h
    refine pt_X0_1 B m6 kf_X0_27 e10 dX0_lay_113 ?_
    refine g_iconst (v := (1 : Int32)) B dX0_lay_116 (by decide) ?_
    obtain ⟨rfl, rfl⟩ := some_e h
    exact g_zret B (by decide) dX0_lay_117
def f_X0_lay_68 (cs : List (Nat × Nat)) (N : Nat) (K19 : Nat → Nat → Nat → Int32 → Int32 → Int32 → HS → Option (Int32 × HS)) (k1 : Nat) (k2 : Nat) (k3 : Nat) (v4 : Int32) (v6 : Int32) (v7 : Int32) (t0 : Int32) (S : HS) : Option (Int32 × HS) :=
  if t0 = 0 then (
    f_X0_lay_94 cs N K19 k1 k2 k3 v4 t0 v6 v7 S)
  else (
    ck (mc cs 4 k2) (
    ck (mc cs 7 k1) (
    ck (mc cs 20 k3) (
    ob (f_X5_allow cs N k3 (gi S 4 k2 0) (gi S 7 k1 1) v6 S) (fun r5 S6 =>
    if r5 = 0 then (
      some ((0 : Int32), S6))
    else (
      f_X0_lay_94 cs N K19 k1 k2 k3 v4 t0 v6 v7 S6))))))
set_option maxHeartbeats 4000000 in
set_option maxRecDepth 100000 in
theorem b_X0_lay_68 {p : Program} {l : Launch} {e : Env} {s : State} {m : MethodId} {args : Array Value} {below : List Frame} {meth : Method} {c : Code} {D : va_G} {cy : Nat → ClassId} {cs : List (Nat × Nat)} {ad : Nat → Nat → Nat} {Zp : State → Prop} {r : Int32} {Z : HS} (B : Bd p s m args meth c D cy cs ad Zp cX0_lay 8 RX0 (some .boolean)) (N : Nat) (K19 : Nat → Nat → Nat → Int32 → Int32 → Int32 → HS → Option (Int32 × HS)) (hK19 : ∀ (k1 : Nat) (k2 : Nat) (k3 : Nat) (v4 : Int32) (v5 : Int32) (v6 : Int32) (S : HS), K19 k1 k2 k3 v4 v5 v6 S = some (r, Z) → GW p l e rm_X0_lay s m args below meth c (QM below args s D cy cs ad (some (.int r)) Z) D cy cs ad 0 0 8 19 [(0, .ref (ad 14 0)), (1, .ref (ad 7 k1)), (2, .ref (ad 4 k2)), (3, .ref (ad 20 k3)), (4, .int v4), (5, .int v5), (6, .int v6)] [] S) (k1 : Nat) (k2 : Nat) (k3 : Nat) (v4 : Int32) (v6 : Int32) (v7 : Int32) (t0 : Int32) (S : HS) (h : f_X0_lay_68 cs N K19 k1 k2 k3 v4 v6 v7 t0 S = some (r, Z)) : GW p l e rm_X0_lay s m args below meth c (QM below args s D cy cs ad (some (.int r)) Z) D cy cs ad 0 0 8 68 [(0, .ref (ad 14 0)), (1, .ref (ad 7 k1)), (2, .ref (ad 4 k2)), (3, .ref (ad 20 k3)), (4, .int v4), (6, .int v6), (7, .int v7)] [.int t0] S := by
  have hA := B.2.2.2.2.2.2.1
  have hZ := B.2.2.2.2.2.2.2.2.2.2
  unfold f_X0_lay_68 at h
  refine g_istore (lv' := [(5, .int t0), (0, .ref (ad 14 0)), (1, .ref (ad 7 k1)), (2, .ref (ad 4 k2)), (3, .ref (ad 20 k3)), (4, .int v4), (6, .int v6), (7, .int v7)]) B dX0_lay_68 (by decide) rfl ?_
  refine g_iload B dX0_lay_70 0 rfl ?_
  refine g_if_eq B 94 dX0_lay_72 (by decide) (fun q1 => ?_) (fun q1 => ?_)
  · have h := if_t h q1
    refine g_sub [1, 2, 3, 4, 5, 0, 6, 7] rfl ?_
    exact b_X0_lay_94 B N _ hK19 _ _ _ _ _ _ _ _ h
  · have h := if_f h q1
    refine g_aload_n B dX0_lay_75 4 rfl rfl ?_
    refine g_aload_n B dX0_lay_76 3 rfl rfl ?_
    obtain ⟨m2, h⟩ := ck_e h
    refine gt_X2_0 B m2 kf_X0_7 dX0_lay_77 ?_
    refine g_aload_n B dX0_lay_80 2 rfl rfl ?_
    obtain ⟨m3, h⟩ := ck_e h
    refine gt_X6_1 B m3 kf_X0_34 dX0_lay_81 ?_
    refine g_iload B dX0_lay_84 6 rfl ?_
    obtain ⟨m4, h⟩ := ck_e h
    obtain ⟨r5, S6, e7, h⟩ := ob_e h
    refine g_cvi (rest := []) B (c_X5_allow hA hZ N _ _ _ _ _ _ _ e7) mf_X5_allow km_X0_37 ⟨by decide, by decide⟩ ⟨rfl, rfl⟩ m4 rfl rfl rfl rfl (Nat.le_of_ble_eq_true rfl) ⟨Nat.zero_le _, Nat.zero_le _⟩ dX0_lay_86 ?_
    refine g_if_ne B 94 dX0_lay_89 (by decide) (fun q8 => ?_) (fun q8 => ?_)
    · have h := if_f h q8
      refine g_sub [1, 2, 3, 4, 5, 0, 6, 7] rfl ?_
      exact b_X0_lay_94 B N _ hK19 _ _ _ _ _ _ _ _ h
    · have h := if_t h q8
      refine g_iconst (v := (0 : Int32)) B dX0_lay_92 (by decide) ?_
      obtain ⟨rfl, rfl⟩ := some_e h
      exact g_zret B (by decide) dX0_lay_93
def f_X0_lay_51 (cs : List (Nat × Nat)) (N : Nat) (K19 : Nat → Nat → Nat → Int32 → Int32 → Int32 → HS → Option (Int32 × HS)) (k1 : Nat) (k2 : Nat) (k3 : Nat) (v4 : Int32) (v5 : Int32) (v6 : Int32) (t0 : Int32) (S : HS) : Option (Int32 × HS) :=
  if v5 = 0 then (
    if t0 ≤ 0 then (
      f_X0_lay_68 cs N K19 k1 k2 k3 v4 v6 t0 (0 : Int32) S)
    else (
      f_X0_lay_68 cs N K19 k1 k2 k3 v4 v6 t0 (1 : Int32) S))
  else (
    f_X0_lay_68 cs N K19 k1 k2 k3 v4 v6 t0 (1 : Int32) S)
set_option maxHeartbeats 4000000 in
set_option maxRecDepth 100000 in
theorem b_X0_lay_51 {p : Program} {l : Launch} {e : Env} {s : State} {m : MethodId} {args : Array Value} {below : List Frame} {meth : Method} {c : Code} {D : va_G} {cy : Nat → ClassId} {cs : List (Nat × Nat)} {ad : Nat → Nat → Nat} {Zp : State → Prop} {r : Int32} {Z : HS} (B : Bd p s m args meth c D cy cs ad Zp cX0_lay 8 RX0 (some .boolean)) (N : Nat) (K19 : Nat → Nat → Nat → Int32 → Int32 → Int32 → HS → Option (Int32 × HS)) (hK19 : ∀ (k1 : Nat) (k2 : Nat) (k3 : Nat) (v4 : Int32) (v5 : Int32) (v6 : Int32) (S : HS), K19 k1 k2 k3 v4 v5 v6 S = some (r, Z) → GW p l e rm_X0_lay s m args below meth c (QM below args s D cy cs ad (some (.int r)) Z) D cy cs ad 0 0 8 19 [(0, .ref (ad 14 0)), (1, .ref (ad 7 k1)), (2, .ref (ad 4 k2)), (3, .ref (ad 20 k3)), (4, .int v4), (5, .int v5), (6, .int v6)] [] S) (k1 : Nat) (k2 : Nat) (k3 : Nat) (v4 : Int32) (v5 : Int32) (v6 : Int32) (t0 : Int32) (S : HS) (h : f_X0_lay_51 cs N K19 k1 k2 k3 v4 v5 v6 t0 S = some (r, Z)) : GW p l e rm_X0_lay s m args below meth c (QM below args s D cy cs ad (some (.int r)) Z) D cy cs ad 0 0 8 51 [(0, .ref (ad 14 0)), (1, .ref (ad 7 k1)), (2, .ref (ad 4 k2)), (3, .ref (ad 20 k3)), (4, .int v4), (5, .int v5), (6, .int v6)] [.int t0] S := by
  have hA := B.2.2.2.2.2.2.1
  have hZ := B.2.2.2.2.2.2.2.2.2.2
  unfold f_X0_lay_51 at h
  refine g_istore (lv' := [(7, .int t0), (0, .ref (ad 14 0)), (1, .ref (ad 7 k1)), (2, .ref (ad 4 k2)), (3, .ref (ad 20 k3)), (4, .int v4), (5, .int v5), (6, .int v6)]) B dX0_lay_51 (by decide) rfl ?_
  refine g_iload B dX0_lay_53 6 rfl ?_
  refine g_if_ne B 63 dX0_lay_55 (by decide) (fun q1 => ?_) (fun q1 => ?_)
  · have h := if_f h q1
    refine g_iconst (v := (1 : Int32)) B dX0_lay_63 (by decide) ?_
    refine g_goto B 68 dX0_lay_64 (by decide) ?_
    refine g_sub [1, 2, 3, 4, 5, 7, 0] rfl ?_
    exact b_X0_lay_68 B N _ hK19 _ _ _ _ _ _ _ _ h
  · have h := if_t h q1
    refine g_iload B dX0_lay_58 0 rfl ?_
    refine g_if_le B 67 dX0_lay_60 (by decide) (fun q2 => ?_) (fun q2 => ?_)
    · have h := if_t h q2
      refine g_iconst (v := (0 : Int32)) B dX0_lay_67 (by decide) ?_
      refine g_sub [1, 2, 3, 4, 5, 7, 0] rfl ?_
      exact b_X0_lay_68 B N _ hK19 _ _ _ _ _ _ _ _ h
    · have h := if_f h q2
      refine g_iconst (v := (1 : Int32)) B dX0_lay_63 (by decide) ?_
      refine g_goto B 68 dX0_lay_64 (by decide) ?_
      refine g_sub [1, 2, 3, 4, 5, 7, 0] rfl ?_
      exact b_X0_lay_68 B N _ hK19 _ _ _ _ _ _ _ _ h
def f_X0_lay_19 (cs : List (Nat × Nat)) (N : Nat)  : Nat → Nat → Nat → Nat → Int32 → Int32 → Int32 → HS → Option (Int32 × HS)
  | 0, _, _, _, _, _, _, _ => none
  | n + 1, k1, k2, k3, v4, v5, v6, S =>
    ck (mc cs 7 k1) (
    if (gi S 7 k1 3) < v6 then (
      some ((0 : Int32), S))
    else (
      ck (mc cs 14 0) (
      if v6 = (gi S 14 0 0) then (
        f_X0_lay_51 cs N (f_X0_lay_19 cs N n) k1 k2 k3 v4 v5 v6 (gi S 14 0 1) S)
      else (
        ck (mc cs 4 k2) (
        ck (mc cs 5 k2) (
        ck (inb v6 52) (
        f_X0_lay_51 cs N (f_X0_lay_19 cs N n) k1 k2 k3 v4 v5 v6 (gi S 5 k2 v6.toNatClampNeg) S)))))))
set_option maxHeartbeats 4000000 in
set_option maxRecDepth 100000 in
theorem b_X0_lay_19 {p : Program} {l : Launch} {e : Env} {s : State} {m : MethodId} {args : Array Value} {below : List Frame} {meth : Method} {c : Code} {D : va_G} {cy : Nat → ClassId} {cs : List (Nat × Nat)} {ad : Nat → Nat → Nat} {Zp : State → Prop} {r : Int32} {Z : HS} (B : Bd p s m args meth c D cy cs ad Zp cX0_lay 8 RX0 (some .boolean)) (N : Nat)  : ∀ (n : Nat) (k1 : Nat) (k2 : Nat) (k3 : Nat) (v4 : Int32) (v5 : Int32) (v6 : Int32) (S : HS), f_X0_lay_19 cs N n k1 k2 k3 v4 v5 v6 S = some (r, Z) → GW p l e rm_X0_lay s m args below meth c (QM below args s D cy cs ad (some (.int r)) Z) D cy cs ad 0 0 8 19 [(0, .ref (ad 14 0)), (1, .ref (ad 7 k1)), (2, .ref (ad 4 k2)), (3, .ref (ad 20 k3)), (4, .int v4), (5, .int v5), (6, .int v6)] [] S := by
  have hA := B.2.2.2.2.2.2.1
  have hZ := B.2.2.2.2.2.2.2.2.2.2
  intro n
  induction n with
  | zero => intro k1 k2 k3 v4 v5 v6 S h; cases h
  | succ n ih =>
    intro k1 k2 k3 v4 v5 v6 S h
    rw [f_X0_lay_19] at h
    refine g_iload B dX0_lay_19 6 rfl ?_
    refine g_aload_n B dX0_lay_21 1 rfl rfl ?_
    obtain ⟨m1, h⟩ := ck_e h
    refine gt_X6_3 B m1 kf_X0_24 dX0_lay_22 ?_
    refine g_icmp_gt B 131 dX0_lay_25 (by decide) (fun q2 => ?_) (fun q2 => ?_)
    · have h := if_t h q2
      refine g_iconst (v := (0 : Int32)) B dX0_lay_131 (by decide) ?_
      obtain ⟨rfl, rfl⟩ := some_e h
      exact g_zret B (by decide) dX0_lay_132
    · have h := if_f h q2
      refine g_iload B dX0_lay_28 6 rfl ?_
      refine g_aload_n B dX0_lay_30 0 rfl rfl ?_
      obtain ⟨m3, h⟩ := ck_e h
      refine gt_X0_0 B m3 kf_X0_19 dX0_lay_31 ?_
      refine g_icmp_ne B 44 dX0_lay_34 (by decide) (fun q4 => ?_) (fun q4 => ?_)
      · have h := if_f h q4
        refine g_aload_n B dX0_lay_44 2 rfl rfl ?_
        obtain ⟨m5, h⟩ := ck_e h
        refine gt_X2_1 B m5 kf_X0_30 dX0_lay_45 ?_
        refine g_iload B dX0_lay_48 6 rfl ?_
        obtain ⟨m6, h⟩ := ck_e h
        obtain ⟨b7, h⟩ := ck_e h
        refine g_iald (n := 52) B m6 (fun _ => rfl) b7 dX0_lay_50 ?_
        exact b_X0_lay_51 B N _ ih _ _ _ _ _ _ _ _ h
      · have h := if_t h q4
        refine g_aload_n B dX0_lay_37 0 rfl rfl ?_
        refine gt_X0_1 B m3 kf_X0_27 dX0_lay_38 ?_
        refine g_goto B 51 dX0_lay_41 (by decide) ?_
        exact b_X0_lay_51 B N _ ih _ _ _ _ _ _ _ _ h
def f_X0_lay (cs : List (Nat × Nat)) (N : Nat) (a1 : Nat) (a2 : Nat) (a3 : Nat) (S : HS) : Option (Int32 × HS) :=
  ck (mc cs 4 a2) (
  ck (mc cs 7 a1) (
  ob (f_X6_hoursLeftFor cs N a1 (gi S 4 a2 0) S) (fun r3 S4 =>
  ck (mc cs 14 0) (
  lt_ ((gi S4 14 0 0)) (fun x7 =>
  f_X0_lay_19 cs N N a1 a2 a3 r3 (0 : Int32) x7 S4)))))
set_option maxHeartbeats 4000000 in
set_option maxRecDepth 100000 in
theorem c_X0_lay {l : Launch} {D : va_G} {cy : Nat → ClassId} {cs : List (Nat × Nat)} {ad : Nat → Nat → Nat} {Zp : State → Prop} (hA : AdOk cs ad) (hZ : ZOk cs ad Zp) (N : Nat) (a1 : Nat) (a2 : Nat) (a3 : Nat) (S : HS) (r : Int32) (Z : HS) (h : f_X0_lay cs N a1 a2 a3 S = some (r, Z)) : Ctr Zp l yX0_lay cX0_lay 8 (some .boolean) rm_X0_lay D cy cs ad [.ref (ad 14 0), .ref (ad 7 a1), .ref (ad 4 a2), .ref (ad 20 a3)] S (some (.int r)) Z := by
  unfold f_X0_lay at h
  refine Ctr.of hA hZ RX0 (plainFor_of_name (by decide)) rfl [(0, .ref (ad 14 0)), (1, .ref (ad 7 a1)), (2, .ref (ad 4 a2)), (3, .ref (ad 20 a3))] rfl (Nat.le_of_ble_eq_true rfl) (fun p e s m below meth c B => ?_)
  refine g_aload_n B dX0_lay_0 1 rfl rfl ?_
  refine g_aload_n B dX0_lay_1 2 rfl rfl ?_
  obtain ⟨m1, h⟩ := ck_e h
  refine gt_X2_0 B m1 kf_X0_7 dX0_lay_2 ?_
  obtain ⟨m2, h⟩ := ck_e h
  obtain ⟨r3, S4, e5, h⟩ := ob_e h
  refine g_cvi (rest := []) B (c_X6_hoursLeftFor hA hZ N _ _ _ _ _ e5) mf_X6_hoursLeftFor km_X0_13 ⟨by decide, by decide⟩ ⟨rfl, rfl⟩ m2 rfl rfl rfl rfl (Nat.le_of_ble_eq_true rfl) ⟨Nat.zero_le _, Nat.zero_le _⟩ dX0_lay_5 ?_
  refine g_istore (lv' := [(4, .int r3), (0, .ref (ad 14 0)), (1, .ref (ad 7 a1)), (2, .ref (ad 4 a2)), (3, .ref (ad 20 a3))]) B dX0_lay_8 (by decide) rfl ?_
  refine g_iconst (v := (0 : Int32)) B dX0_lay_10 (by decide) ?_
  refine g_istore (lv' := [(5, .int (0 : Int32)), (4, .int r3), (0, .ref (ad 14 0)), (1, .ref (ad 7 a1)), (2, .ref (ad 4 a2)), (3, .ref (ad 20 a3))]) B dX0_lay_11 (by decide) rfl ?_
  refine g_aload_n B dX0_lay_13 2 rfl rfl ?_
  obtain ⟨m6, h⟩ := ck_e h
  refine gt_X0_0 B m6 kf_X0_19 dX0_lay_14 ?_
  obtain ⟨x7, e8, h⟩ := lt_e h
  refine g_topi e8 ?_
  refine g_istore (lv' := [(6, .int x7), (5, .int (0 : Int32)), (4, .int r3), (0, .ref (ad 14 0)), (1, .ref (ad 7 a1)), (2, .ref (ad 4 a2)), (3, .ref (ad 20 a3))]) B dX0_lay_17 (by decide) rfl ?_
  refine g_sub [3, 4, 5, 6, 2, 1, 0] rfl ?_
  exact b_X0_lay_19 B N N _ _ _ _ _ _ _ h

def rm_X1_tell : Room := { frames := 2, cells := 0, slots := 0, locals := 44 }
def f_X1_tell (cs : List (Nat × Nat)) (N : Nat) (a1 : Int32) (a2 : Nat) (S : HS) : Option (Unit × HS) :=
  if a1 = (4 : Int32) then (
    ck (mc cs 8 0) (
    ck (mc cs 11 0) (
    ck (inb (0 : Int32) 3) (
    ck (inb (1 : Int32) 3) (
    ck (mc cs 20 a2) (
    ob (f_X5_give cs N a2 (gi S 11 0 (0 : Int32).toNatClampNeg) (gi S 11 0 (1 : Int32).toNatClampNeg) S) (fun r7 S8 =>
    some ((), S8))))))))
  else (
  if a1 = (6 : Int32) then (
    ck (mc cs 8 0) (
    ck (mc cs 11 0) (
    ck (inb (0 : Int32) 3) (
    ck (inb (1 : Int32) 3) (
    ck (inb (2 : Int32) 3) (
    ck (mc cs 20 a2) (
    ob (f_X5_share cs N a2 (gi S 11 0 (0 : Int32).toNatClampNeg) (gi S 11 0 (1 : Int32).toNatClampNeg) (gi S 11 0 (2 : Int32).toNatClampNeg) S) (fun r17 S18 =>
    some ((), S18)))))))))
  else (
  if a1 = (9 : Int32) then (
    ck (mc cs 8 0) (
    ck (mc cs 11 0) (
    ck (inb (0 : Int32) 3) (
    ck (inb (1 : Int32) 3) (
    ck (inb (2 : Int32) 3) (
    ck (mc cs 20 a2) (
    ob (f_X5_shut cs N a2 (gi S 11 0 (0 : Int32).toNatClampNeg) (gi S 11 0 (1 : Int32).toNatClampNeg) (gi S 11 0 (2 : Int32).toNatClampNeg) S) (fun r27 S28 =>
    some ((), S28)))))))))
  else (
  ck (mc cs 8 0) (
  ck (mc cs 11 0) (
  ck (inb (0 : Int32) 3) (
  ck (mc cs 20 a2) (
  ob (f_X5_give cs N a2 (gi S 11 0 (0 : Int32).toNatClampNeg) (-1 : Int32) S) (fun r34 S35 =>
  some ((), S35)))))))))
set_option maxHeartbeats 4000000 in
set_option maxRecDepth 100000 in
theorem c_X1_tell {l : Launch} {D : va_G} {cy : Nat → ClassId} {cs : List (Nat × Nat)} {ad : Nat → Nat → Nat} {Zp : State → Prop} (hA : AdOk cs ad) (hZ : ZOk cs ad Zp) (N : Nat) (a1 : Int32) (a2 : Nat) (S : HS) (r : Unit) (Z : HS) (h : f_X1_tell cs N a1 a2 S = some (r, Z)) : Ctr Zp l yX1_tell cX1_tell 3 none rm_X1_tell D cy cs ad [.ref (ad 8 0), .int a1, .ref (ad 20 a2)] S (none) Z := by
  unfold f_X1_tell at h
  refine Ctr.of hA hZ RX1 (plainFor_of_name (by decide)) rfl [(0, .ref (ad 8 0)), (1, .int a1), (2, .ref (ad 20 a2))] rfl (Nat.le_of_ble_eq_true rfl) (fun p e s m below meth c B => ?_)
  refine g_iload_n B dX1_tell_0 1 rfl rfl ?_
  by_cases q1 : a1 = (4 : Int32)
  · have h := if_t h q1
    refine g_lookup (off := 35) B 36 dX1_tell_1 (by decide) (by rw [q1]; decide) (by decide) ?_
    refine g_aload_n B dX1_tell_36 2 rfl rfl ?_
    refine g_aload_n B dX1_tell_37 0 rfl rfl ?_
    obtain ⟨m2, h⟩ := ck_e h
    refine gt_X1_4 B m2 kf_X1_22 dX1_tell_38 ?_
    refine g_iconst (v := (0 : Int32)) B dX1_tell_41 (by decide) ?_
    obtain ⟨m3, h⟩ := ck_e h
    obtain ⟨b4, h⟩ := ck_e h
    refine g_iald (n := 3) B m3 (fun _ => rfl) b4 dX1_tell_42 ?_
    refine g_aload_n B dX1_tell_43 0 rfl rfl ?_
    refine gt_X1_4 B m2 kf_X1_22 dX1_tell_44 ?_
    refine g_iconst (v := (1 : Int32)) B dX1_tell_47 (by decide) ?_
    obtain ⟨b5, h⟩ := ck_e h
    refine g_iald (n := 3) B m3 (fun _ => rfl) b5 dX1_tell_48 ?_
    obtain ⟨m6, h⟩ := ck_e h
    obtain ⟨r7, S8, e9, h⟩ := ob_e h
    refine g_cvv (rest := []) B (c_X5_give hA hZ N _ _ _ _ _ _ e9) mf_X5_give km_X1_92 ⟨by decide, by decide⟩ ⟨rfl, rfl⟩ m6 rfl rfl rfl rfl (Nat.le_of_ble_eq_true rfl) ⟨Nat.zero_le _, Nat.zero_le _⟩ dX1_tell_49 ?_
    refine g_goto B 116 dX1_tell_52 (by decide) ?_
    obtain ⟨-, rfl⟩ := some_e h
    exact g_vret B dX1_tell_116
  have h := if_f h q1
  by_cases q10 : a1 = (6 : Int32)
  · have h := if_t h q10
    refine g_lookup (off := 54) B 55 dX1_tell_1 (by decide) (by rw [q10]; decide) (by decide) ?_
    refine g_aload_n B dX1_tell_55 2 rfl rfl ?_
    refine g_aload_n B dX1_tell_56 0 rfl rfl ?_
    obtain ⟨m11, h⟩ := ck_e h
    refine gt_X1_4 B m11 kf_X1_22 dX1_tell_57 ?_
    refine g_iconst (v := (0 : Int32)) B dX1_tell_60 (by decide) ?_
    obtain ⟨m12, h⟩ := ck_e h
    obtain ⟨b13, h⟩ := ck_e h
    refine g_iald (n := 3) B m12 (fun _ => rfl) b13 dX1_tell_61 ?_
    refine g_aload_n B dX1_tell_62 0 rfl rfl ?_
    refine gt_X1_4 B m11 kf_X1_22 dX1_tell_63 ?_
    refine g_iconst (v := (1 : Int32)) B dX1_tell_66 (by decide) ?_
    obtain ⟨b14, h⟩ := ck_e h
    refine g_iald (n := 3) B m12 (fun _ => rfl) b14 dX1_tell_67 ?_
    refine g_aload_n B dX1_tell_68 0 rfl rfl ?_
    refine gt_X1_4 B m11 kf_X1_22 dX1_tell_69 ?_
    refine g_iconst (v := (2 : Int32)) B dX1_tell_72 (by decide) ?_
    obtain ⟨b15, h⟩ := ck_e h
    refine g_iald (n := 3) B m12 (fun _ => rfl) b15 dX1_tell_73 ?_
    obtain ⟨m16, h⟩ := ck_e h
    obtain ⟨r17, S18, e19, h⟩ := ob_e h
    refine g_cvv (rest := []) B (c_X5_share hA hZ N _ _ _ _ _ _ _ e19) mf_X5_share km_X1_96 ⟨by decide, by decide⟩ ⟨rfl, rfl⟩ m16 rfl rfl rfl rfl (Nat.le_of_ble_eq_true rfl) ⟨Nat.zero_le _, Nat.zero_le _⟩ dX1_tell_74 ?_
    refine g_goto B 116 dX1_tell_77 (by decide) ?_
    obtain ⟨-, rfl⟩ := some_e h
    exact g_vret B dX1_tell_116
  have h := if_f h q10
  by_cases q20 : a1 = (9 : Int32)
  · have h := if_t h q20
    refine g_lookup (off := 79) B 80 dX1_tell_1 (by decide) (by rw [q20]; decide) (by decide) ?_
    refine g_aload_n B dX1_tell_80 2 rfl rfl ?_
    refine g_aload_n B dX1_tell_81 0 rfl rfl ?_
    obtain ⟨m21, h⟩ := ck_e h
    refine gt_X1_4 B m21 kf_X1_22 dX1_tell_82 ?_
    refine g_iconst (v := (0 : Int32)) B dX1_tell_85 (by decide) ?_
    obtain ⟨m22, h⟩ := ck_e h
    obtain ⟨b23, h⟩ := ck_e h
    refine g_iald (n := 3) B m22 (fun _ => rfl) b23 dX1_tell_86 ?_
    refine g_aload_n B dX1_tell_87 0 rfl rfl ?_
    refine gt_X1_4 B m21 kf_X1_22 dX1_tell_88 ?_
    refine g_iconst (v := (1 : Int32)) B dX1_tell_91 (by decide) ?_
    obtain ⟨b24, h⟩ := ck_e h
    refine g_iald (n := 3) B m22 (fun _ => rfl) b24 dX1_tell_92 ?_
    refine g_aload_n B dX1_tell_93 0 rfl rfl ?_
    refine gt_X1_4 B m21 kf_X1_22 dX1_tell_94 ?_
    refine g_iconst (v := (2 : Int32)) B dX1_tell_97 (by decide) ?_
    obtain ⟨b25, h⟩ := ck_e h
    refine g_iald (n := 3) B m22 (fun _ => rfl) b25 dX1_tell_98 ?_
    obtain ⟨m26, h⟩ := ck_e h
    obtain ⟨r27, S28, e29, h⟩ := ob_e h
    refine g_cvv (rest := []) B (c_X5_shut hA hZ N _ _ _ _ _ _ _ e29) mf_X5_shut km_X1_100 ⟨by decide, by decide⟩ ⟨rfl, rfl⟩ m26 rfl rfl rfl rfl (Nat.le_of_ble_eq_true rfl) ⟨Nat.zero_le _, Nat.zero_le _⟩ dX1_tell_99 ?_
    refine g_goto B 116 dX1_tell_102 (by decide) ?_
    obtain ⟨-, rfl⟩ := some_e h
    exact g_vret B dX1_tell_116
  have h := if_f h q20
  refine g_lookup (off := 104) B 105 dX1_tell_1 (by decide) (by show Op.lookupswitch.offset [(4, 35), (6, 54), (9, 79)] 104 _ = _; rw [lv_osw q1 (by decide), lv_osw q10 (by decide), lv_osw q20 (by decide)]; rfl) (by decide) ?_
  refine g_aload_n B dX1_tell_105 2 rfl rfl ?_
  refine g_aload_n B dX1_tell_106 0 rfl rfl ?_
  obtain ⟨m30, h⟩ := ck_e h
  refine gt_X1_4 B m30 kf_X1_22 dX1_tell_107 ?_
  refine g_iconst (v := (0 : Int32)) B dX1_tell_110 (by decide) ?_
  obtain ⟨m31, h⟩ := ck_e h
  obtain ⟨b32, h⟩ := ck_e h
  refine g_iald (n := 3) B m31 (fun _ => rfl) b32 dX1_tell_111 ?_
  refine g_iconst (v := (-1 : Int32)) B dX1_tell_112 (by decide) ?_
  obtain ⟨m33, h⟩ := ck_e h
  obtain ⟨r34, S35, e36, h⟩ := ob_e h
  refine g_cvv (rest := []) B (c_X5_give hA hZ N _ _ _ _ _ _ e36) mf_X5_give km_X1_92 ⟨by decide, by decide⟩ ⟨rfl, rfl⟩ m33 rfl rfl rfl rfl (Nat.le_of_ble_eq_true rfl) ⟨Nat.zero_le _, Nat.zero_le _⟩ dX1_tell_113 ?_
  obtain ⟨-, rfl⟩ := some_e h
  exact g_vret B dX1_tell_116

def rm_X4_rankOf : Room := { frames := 1, cells := 0, slots := 0, locals := 21 }
def f_X4_rankOf (cs : List (Nat × Nat)) (N : Nat) (a1 : Nat) (a2 : Int32) (S : HS) : Option (Int64 × HS) :=
  ck (mc cs 7 a1) (
  ob (f_X6_hoursLeftFor cs N a1 a2 S) (fun r2 S3 =>
  ck (inb (gi S3 7 a1 0) (sLn 4)) (
  some ((((((gi S 7 a1 4).toInt64) * (10000000000 : Int64)) - ((r2.toInt64) * (100000 : Int64))) + ((((4 : Int32) - a2) * (sVl 4 (gi S3 7 a1 0).toNatClampNeg)).toInt64)), S3))))
set_option maxHeartbeats 4000000 in
set_option maxRecDepth 100000 in
theorem c_X4_rankOf {l : Launch} {D : va_G} {cy : Nat → ClassId} {cs : List (Nat × Nat)} {ad : Nat → Nat → Nat} (hA : AdOk cs ad) (N : Nat) (a1 : Nat) (a2 : Int32) (S : HS) (r : Int64) (Z : HS) (h : f_X4_rankOf cs N a1 a2 S = some (r, Z)) : Ctr (gZ cs ad) l yX4_rankOf cX4_rankOf 2 (some .long) rm_X4_rankOf D cy cs ad [.ref (ad 7 a1), .int a2] S (some (.long r)) Z := by
  have hZ := gZ_ok cs ad
  unfold f_X4_rankOf at h
  refine Ctr.of hA (gZ_ok cs ad) RX4 (plainFor_of_name (by decide)) rfl [(0, .ref (ad 7 a1)), (1, .int a2)] rfl (Nat.le_of_ble_eq_true rfl) (fun p e s m below meth c B => ?_)
  refine g_aload_n B dX4_rankOf_0 0 rfl rfl ?_
  obtain ⟨m1, h⟩ := ck_e h
  refine gt_X6_4 B m1 kf_X4_113 dX4_rankOf_1 ?_
  refine g_i2l B dX4_rankOf_4 ?_
  refine g_ldc2 (v := (10000000000 : Int64)) B dX4_rankOf_5 kk_X4_116 ?_
  refine g_lmul B dX4_rankOf_8 ?_
  refine g_aload_n B dX4_rankOf_9 0 rfl rfl ?_
  refine g_iload_n B dX4_rankOf_10 1 rfl rfl ?_
  obtain ⟨r2, S3, e4, h⟩ := ob_e h
  refine g_cvi (rest := [.long (((gi S 7 a1 4).toInt64) * (10000000000 : Int64))]) B (c_X6_hoursLeftFor hA hZ N _ _ _ _ _ e4) mf_X6_hoursLeftFor km_X4_118 ⟨by decide, by decide⟩ ⟨rfl, rfl⟩ m1 rfl rfl rfl rfl (Nat.le_of_ble_eq_true rfl) ⟨Nat.zero_le _, Nat.zero_le _⟩ dX4_rankOf_11 ?_
  refine g_i2l B dX4_rankOf_14 ?_
  refine g_ldc2 (v := (100000 : Int64)) B dX4_rankOf_15 kk_X4_122 ?_
  refine g_lmul B dX4_rankOf_18 ?_
  refine g_lsub B dX4_rankOf_19 ?_
  refine g_iconst (v := (4 : Int32)) B dX4_rankOf_20 (by decide) ?_
  refine g_iload_n B dX4_rankOf_21 1 rfl rfl ?_
  refine g_isub B dX4_rankOf_22 ?_
  refine g_gets B (k := 4) (by decide) rfl (by decide +kernel) dX4_rankOf_23 ?_
  refine g_aload_n B dX4_rankOf_26 0 rfl rfl ?_
  refine gt_X6_0 B m1 kf_X4_127 dX4_rankOf_27 ?_
  obtain ⟨b5, h⟩ := ck_e h
  refine g_sld B (by decide) b5 dX4_rankOf_30 ?_
  refine g_imul B dX4_rankOf_31 ?_
  refine g_i2l B dX4_rankOf_32 ?_
  refine g_ladd B dX4_rankOf_33 ?_
  obtain ⟨rfl, rfl⟩ := some_e h
  exact g_lret B dX4_rankOf_34

def rm_X4_tellOrder : Room := { frames := 2, cells := 0, slots := 0, locals := 50 }
def f_X4_tellOrder_33 (cs : List (Nat × Nat)) (N : Nat)  (k1 : Nat) (k2 : Nat) (k3 : Nat) (v5 : Int32) (t0 : Int32) (S : HS) : Option (Unit × HS) :=
  ck (mc cs 12 0) (
  ck (mc cs 14 0) (
  ob (f_X0_lay cs N k1 k2 k3 S) (fun r3 S4 =>
  if r3 = 0 then (
    some ((), S4))
  else (
    ck (mc cs 7 k1) (
    lt_ (ui S4 12 0 0 ((gi S4 12 0 0) + (gi S4 7 k1 4))) (fun S8 =>
    lt_ (ui S8 12 0 1 ((gi S8 12 0 1) + v5)) (fun S10 =>
    ck (mc cs 4 k2) (
    ck (mc cs 13 0) (
    ck (inb (gi S10 7 k1 0) 7) (
    lt_ (ui S10 13 0 (gi S10 7 k1 0).toNatClampNeg (gi S10 4 k2 0)) (fun S15 =>
    ck (mc cs 13 1) (
    ck (inb (gi S15 7 k1 0) 7) (
    lt_ (ui S15 13 1 (gi S15 7 k1 0).toNatClampNeg (gi S15 14 0 0)) (fun S19 =>
    ob (f_J9_min_7cf53 cs N v5 t0 S19) (fun r21 S22 =>
    ck (mc cs 13 2) (
    ck (inb (gi S19 7 k1 0) 7) (
    lt_ (ui S22 13 2 (gi S19 7 k1 0).toNatClampNeg r21) (fun S26 =>
    some ((), S26)))))))))))))))))))
set_option maxHeartbeats 4000000 in
set_option maxRecDepth 100000 in
theorem b_X4_tellOrder_33 {p : Program} {l : Launch} {e : Env} {s : State} {m : MethodId} {args : Array Value} {below : List Frame} {meth : Method} {c : Code} {D : va_G} {cy : Nat → ClassId} {cs : List (Nat × Nat)} {ad : Nat → Nat → Nat} {Zp : State → Prop} {r : Unit} {Z : HS} (B : Bd p s m args meth c D cy cs ad Zp cX4_tellOrder 7 RX4 none) (N : Nat)  (k1 : Nat) (k2 : Nat) (k3 : Nat) (v5 : Int32) (t0 : Int32) (S : HS) (h : f_X4_tellOrder_33 cs N k1 k2 k3 v5 t0 S = some (r, Z)) : GW p l e rm_X4_tellOrder s m args below meth c (QM below args s D cy cs ad (none) Z) D cy cs ad 0 0 7 33 [(0, .ref (ad 12 0)), (1, .ref (ad 7 k1)), (2, .ref (ad 4 k2)), (3, .ref (ad 20 k3)), (5, .int v5)] [.int t0] S := by
  have hA := B.2.2.2.2.2.2.1
  have hZ := B.2.2.2.2.2.2.2.2.2.2
  unfold f_X4_tellOrder_33 at h
  refine g_istore (lv' := [(6, .int t0), (0, .ref (ad 12 0)), (1, .ref (ad 7 k1)), (2, .ref (ad 4 k2)), (3, .ref (ad 20 k3)), (5, .int v5)]) B dX4_tellOrder_33 (by decide) rfl ?_
  refine g_aload_n B dX4_tellOrder_35 1 rfl rfl ?_
  obtain ⟨m1, h⟩ := ck_e h
  refine gt_X4_7 B m1 kf_X4_27 dX4_tellOrder_36 ?_
  refine g_aload_n B dX4_tellOrder_39 2 rfl rfl ?_
  refine g_aload_n B dX4_tellOrder_40 3 rfl rfl ?_
  refine g_aload_n B dX4_tellOrder_41 4 rfl rfl ?_
  obtain ⟨m2, h⟩ := ck_e h
  obtain ⟨r3, S4, e5, h⟩ := ob_e h
  refine g_cvi (rest := []) B (c_X0_lay hA hZ N _ _ _ _ _ _ e5) mf_X0_lay km_X4_109 ⟨by decide, by decide⟩ ⟨rfl, rfl⟩ m2 rfl rfl rfl rfl (Nat.le_of_ble_eq_true rfl) ⟨Nat.zero_le _, Nat.zero_le _⟩ dX4_tellOrder_42 ?_
  refine g_if_eq B 117 dX4_tellOrder_45 (by decide) (fun q6 => ?_) (fun q6 => ?_)
  · have h := if_t h q6
    obtain ⟨-, rfl⟩ := some_e h
    exact g_vret B dX4_tellOrder_117
  · have h := if_f h q6
    refine g_aload_n B dX4_tellOrder_48 1 rfl rfl ?_
    refine g_dup B dX4_tellOrder_49 rfl ?_
    refine gt_X4_0 B m1 kf_X4_128 dX4_tellOrder_50 ?_
    refine g_aload_n B dX4_tellOrder_53 2 rfl rfl ?_
    obtain ⟨m7, h⟩ := ck_e h
    refine gt_X6_4 B m7 kf_X4_113 dX4_tellOrder_54 ?_
    refine g_iadd B dX4_tellOrder_57 ?_
    obtain ⟨S8, e9, h⟩ := lt_e h
    refine pt_X4_0 B m1 kf_X4_128 e9 dX4_tellOrder_58 ?_
    refine g_aload_n B dX4_tellOrder_61 1 rfl rfl ?_
    refine g_dup B dX4_tellOrder_62 rfl ?_
    refine gt_X4_1 B m1 kf_X4_131 dX4_tellOrder_63 ?_
    refine g_iload B dX4_tellOrder_66 5 rfl ?_
    refine g_iadd B dX4_tellOrder_68 ?_
    obtain ⟨S10, e11, h⟩ := lt_e h
    refine pt_X4_1 B m1 kf_X4_131 e11 dX4_tellOrder_69 ?_
    refine g_aload_n B dX4_tellOrder_72 1 rfl rfl ?_
    refine gt_X4_2 B m1 kf_X4_9 dX4_tellOrder_73 ?_
    refine g_aload_n B dX4_tellOrder_76 2 rfl rfl ?_
    refine gt_X6_0 B m7 kf_X4_127 dX4_tellOrder_77 ?_
    refine g_aload_n B dX4_tellOrder_80 3 rfl rfl ?_
    obtain ⟨m12, h⟩ := ck_e h
    refine gt_X2_0 B m12 kf_X4_93 dX4_tellOrder_81 ?_
    obtain ⟨m13, h⟩ := ck_e h
    obtain ⟨b14, h⟩ := ck_e h
    obtain ⟨S15, e16, h⟩ := lt_e h
    refine g_iast (n := 7) B m13 b14 (fun _ => rfl) e16 dX4_tellOrder_84 ?_
    refine g_aload_n B dX4_tellOrder_85 1 rfl rfl ?_
    refine gt_X4_3 B m1 kf_X4_15 dX4_tellOrder_86 ?_
    refine g_aload_n B dX4_tellOrder_89 2 rfl rfl ?_
    refine gt_X6_0 B m7 kf_X4_127 dX4_tellOrder_90 ?_
    refine g_aload_n B dX4_tellOrder_93 1 rfl rfl ?_
    refine gt_X4_7 B m1 kf_X4_27 dX4_tellOrder_94 ?_
    refine gt_X0_0 B m2 kf_X4_100 dX4_tellOrder_97 ?_
    obtain ⟨m17, h⟩ := ck_e h
    obtain ⟨b18, h⟩ := ck_e h
    obtain ⟨S19, e20, h⟩ := lt_e h
    refine g_iast (n := 7) B m17 b18 (fun _ => rfl) e20 dX4_tellOrder_100 ?_
    refine g_aload_n B dX4_tellOrder_101 1 rfl rfl ?_
    refine gt_X4_4 B m1 kf_X4_18 dX4_tellOrder_102 ?_
    refine g_aload_n B dX4_tellOrder_105 2 rfl rfl ?_
    refine gt_X6_0 B m7 kf_X4_127 dX4_tellOrder_106 ?_
    refine g_iload B dX4_tellOrder_109 5 rfl ?_
    refine g_iload B dX4_tellOrder_111 0 rfl ?_
    obtain ⟨r21, S22, e23, h⟩ := ob_e h
    refine g_csi (rest := [.int (gi S19 7 k1 0), .ref (ad 13 2)]) B (c_J9_min_7cf53 hA hZ N _ _ _ _ _ e23) mf_J9_min_7cf53 km_X4_137 ⟨by decide, by decide⟩ ⟨rfl, rfl⟩ rfl rfl (Nat.le_of_ble_eq_true rfl) ⟨Nat.zero_le _, Nat.zero_le _⟩ dX4_tellOrder_113 ?_
    obtain ⟨m24, h⟩ := ck_e h
    obtain ⟨b25, h⟩ := ck_e h
    obtain ⟨S26, e27, h⟩ := lt_e h
    refine g_iast (n := 7) B m24 b25 (fun _ => rfl) e27 dX4_tellOrder_116 ?_
    obtain ⟨-, rfl⟩ := some_e h
    exact g_vret B dX4_tellOrder_117
def f_X4_tellOrder (cs : List (Nat × Nat)) (N : Nat) (a1 : Nat) (a2 : Nat) (a3 : Nat) (a4 : Int32) (S : HS) : Option (Unit × HS) :=
  ck (mc cs 4 a2) (
  ck (mc cs 7 a1) (
  ob (f_X6_hoursLeftFor cs N a1 (gi S 4 a2 0) S) (fun r3 S4 =>
  ck (mc cs 12 0) (
  ck (mc cs 14 0) (
  if (gi S4 14 0 0) = a4 then (
    f_X4_tellOrder_33 cs N a1 a2 a3 r3 (gi S4 14 0 1) S4)
  else (
    f_X4_tellOrder_33 cs N a1 a2 a3 r3 (0 : Int32) S4))))))
set_option maxHeartbeats 4000000 in
set_option maxRecDepth 100000 in
theorem c_X4_tellOrder {l : Launch} {D : va_G} {cy : Nat → ClassId} {cs : List (Nat × Nat)} {ad : Nat → Nat → Nat} {Zp : State → Prop} (hA : AdOk cs ad) (hZ : ZOk cs ad Zp) (N : Nat) (a1 : Nat) (a2 : Nat) (a3 : Nat) (a4 : Int32) (S : HS) (r : Unit) (Z : HS) (h : f_X4_tellOrder cs N a1 a2 a3 a4 S = some (r, Z)) : Ctr Zp l yX4_tellOrder cX4_tellOrder 7 none rm_X4_tellOrder D cy cs ad [.ref (ad 12 0), .ref (ad 7 a1), .ref (ad 4 a2), .ref (ad 20 a3), .int a4] S (none) Z := by
  unfold f_X4_tellOrder at h
  refine Ctr.of hA hZ RX4 (plainFor_of_name (by decide)) rfl [(0, .ref (ad 12 0)), (1, .ref (ad 7 a1)), (2, .ref (ad 4 a2)), (3, .ref (ad 20 a3)), (4, .int a4)] rfl (Nat.le_of_ble_eq_true rfl) (fun p e s m below meth c B => ?_)
  refine g_aload_n B dX4_tellOrder_0 1 rfl rfl ?_
  refine g_aload_n B dX4_tellOrder_1 2 rfl rfl ?_
  obtain ⟨m1, h⟩ := ck_e h
  refine gt_X2_0 B m1 kf_X4_93 dX4_tellOrder_2 ?_
  obtain ⟨m2, h⟩ := ck_e h
  obtain ⟨r3, S4, e5, h⟩ := ob_e h
  refine g_cvi (rest := []) B (c_X6_hoursLeftFor hA hZ N _ _ _ _ _ e5) mf_X6_hoursLeftFor km_X4_118 ⟨by decide, by decide⟩ ⟨rfl, rfl⟩ m2 rfl rfl rfl rfl (Nat.le_of_ble_eq_true rfl) ⟨Nat.zero_le _, Nat.zero_le _⟩ dX4_tellOrder_5 ?_
  refine g_istore (lv' := [(5, .int r3), (0, .ref (ad 12 0)), (1, .ref (ad 7 a1)), (2, .ref (ad 4 a2)), (3, .ref (ad 20 a3)), (4, .int a4)]) B dX4_tellOrder_8 (by decide) rfl ?_
  refine g_aload_n B dX4_tellOrder_10 1 rfl rfl ?_
  obtain ⟨m6, h⟩ := ck_e h
  refine gt_X4_7 B m6 kf_X4_27 dX4_tellOrder_11 ?_
  obtain ⟨m7, h⟩ := ck_e h
  refine gt_X0_0 B m7 kf_X4_100 dX4_tellOrder_14 ?_
  refine g_iload B dX4_tellOrder_17 5 rfl ?_
  refine g_icmp_ne B 32 dX4_tellOrder_19 (by decide) (fun q8 => ?_) (fun q8 => ?_)
  · have h := if_f h q8
    refine g_iconst (v := (0 : Int32)) B dX4_tellOrder_32 (by decide) ?_
    refine g_sub [1, 2, 3, 4, 0] rfl ?_
    exact b_X4_tellOrder_33 B N _ _ _ _ _ _ h
  · have h := if_t h q8
    refine g_aload_n B dX4_tellOrder_22 1 rfl rfl ?_
    refine gt_X4_7 B m6 kf_X4_27 dX4_tellOrder_23 ?_
    refine gt_X0_1 B m7 kf_X4_103 dX4_tellOrder_26 ?_
    refine g_goto B 33 dX4_tellOrder_29 (by decide) ?_
    refine g_sub [1, 2, 3, 4, 0] rfl ?_
    exact b_X4_tellOrder_33 B N _ _ _ _ _ _ h

def rm_X5_forget : Room := { frames := 1, cells := 0, slots := 0, locals := 23 }
def f_X5_forget_2 (cs : List (Nat × Nat)) (N : Nat)  : Nat → Nat → Int32 → HS → Option (Unit × HS)
  | 0, _, _, _ => none
  | n + 1, k0, v1, S =>
    if (6 : Int32) ≤ v1 then (
      some ((), S))
    else (
      ck (mc cs 20 k0) (
      ob (f_X5_give cs N k0 v1 (-1 : Int32) S) (fun r3 S4 =>
      ck (mc cs 24 k0) (
      ck (inb v1 6) (
      lt_ (ul S4 24 k0 v1.toNatClampNeg (0 : Int64)) (fun S8 =>
      lt_ (v1 + (1 : Int32)) (fun x10 =>
      f_X5_forget_2 cs N n k0 x10 S8)))))))
set_option maxHeartbeats 4000000 in
set_option maxRecDepth 100000 in
theorem b_X5_forget_2 {p : Program} {l : Launch} {e : Env} {s : State} {m : MethodId} {args : Array Value} {below : List Frame} {meth : Method} {c : Code} {D : va_G} {cy : Nat → ClassId} {cs : List (Nat × Nat)} {ad : Nat → Nat → Nat} {Zp : State → Prop} {r : Unit} {Z : HS} (B : Bd p s m args meth c D cy cs ad Zp cX5_forget 2 RX5 none) (N : Nat)  : ∀ (n : Nat) (k0 : Nat) (v1 : Int32) (S : HS), f_X5_forget_2 cs N n k0 v1 S = some (r, Z) → GW p l e rm_X5_forget s m args below meth c (QM below args s D cy cs ad (none) Z) D cy cs ad 0 0 2 2 [(0, .ref (ad 20 k0)), (1, .int v1)] [] S := by
  have hA := B.2.2.2.2.2.2.1
  have hZ := B.2.2.2.2.2.2.2.2.2.2
  intro n
  induction n with
  | zero => intro k0 v1 S h; cases h
  | succ n ih =>
    intro k0 v1 S h
    rw [f_X5_forget_2] at h
    refine g_iload_n B dX5_forget_2 1 rfl rfl ?_
    refine g_bipush (v := (6 : Int32)) B dX5_forget_3 (by decide) ?_
    refine g_icmp_ge B 27 dX5_forget_5 (by decide) (fun q1 => ?_) (fun q1 => ?_)
    · have h := if_t h q1
      obtain ⟨-, rfl⟩ := some_e h
      exact g_vret B dX5_forget_27
    · have h := if_f h q1
      refine g_aload_n B dX5_forget_8 0 rfl rfl ?_
      refine g_iload_n B dX5_forget_9 1 rfl rfl ?_
      refine g_iconst (v := (-1 : Int32)) B dX5_forget_10 (by decide) ?_
      obtain ⟨m2, h⟩ := ck_e h
      obtain ⟨r3, S4, e5, h⟩ := ob_e h
      refine g_cvv (rest := []) B (c_X5_give hA hZ N _ _ _ _ _ _ e5) mf_X5_give km_X5_27 ⟨by decide, by decide⟩ ⟨rfl, rfl⟩ m2 rfl rfl rfl rfl (Nat.le_of_ble_eq_true rfl) ⟨Nat.zero_le _, Nat.zero_le _⟩ dX5_forget_11 ?_
      refine g_aload_n B dX5_forget_14 0 rfl rfl ?_
      refine gt_X5_2 B m2 kf_X5_20 dX5_forget_15 ?_
      refine g_iload_n B dX5_forget_18 1 rfl rfl ?_
      refine g_lconst (v := (0 : Int64)) B dX5_forget_19 rfl ?_
      obtain ⟨m6, h⟩ := ck_e h
      obtain ⟨b7, h⟩ := ck_e h
      obtain ⟨S8, e9, h⟩ := lt_e h
      refine g_last (n := 6) B m6 b7 (fun _ => rfl) e9 dX5_forget_20 ?_
      obtain ⟨x10, e11, h⟩ := lt_e h
      refine g_iinc (v := x10) (lv' := [(1, .int x10), (0, .ref (ad 20 k0))]) B dX5_forget_21 (k := 1) rfl (by rw [e11]; rfl) (by decide) rfl ?_
      refine g_goto B 2 dX5_forget_24 (by decide) ?_
      refine g_sub [1, 0] rfl ?_
      exact ih _ _ _ h
def f_X5_forget (cs : List (Nat × Nat)) (N : Nat) (k : Nat) (S : HS) : Option (Unit × HS) :=
  f_X5_forget_2 cs N N k (0 : Int32) S
set_option maxHeartbeats 4000000 in
set_option maxRecDepth 100000 in
theorem c_X5_forget {l : Launch} {D : va_G} {cy : Nat → ClassId} {cs : List (Nat × Nat)} {ad : Nat → Nat → Nat} {Zp : State → Prop} (hA : AdOk cs ad) (hZ : ZOk cs ad Zp) (N : Nat) (k : Nat) (S : HS) (r : Unit) (Z : HS) (h : f_X5_forget cs N k S = some (r, Z)) : Ctr Zp l yX5_forget cX5_forget 2 none rm_X5_forget D cy cs ad [.ref (ad 20 k)] S (none) Z := by
  unfold f_X5_forget at h
  refine Ctr.of hA hZ RX5 (plainFor_of_name (by decide)) rfl [(0, .ref (ad 20 k))] rfl (Nat.le_of_ble_eq_true rfl) (fun p e s m below meth c B => ?_)
  refine g_iconst (v := (0 : Int32)) B dX5_forget_0 (by decide) ?_
  refine g_istore_n (lv' := [(1, .int (0 : Int32)), (0, .ref (ad 20 k))]) B dX5_forget_1 rfl (by decide) rfl ?_
  refine g_sub [1, 0] rfl ?_
  exact b_X5_forget_2 B N N _ _ _ h

def rm_X7_skipLetters : Room := { frames := 1, cells := 0, slots := 0, locals := 20 }
def f_X7_skipLetters_0 (cs : List (Nat × Nat)) (N : Nat)  : Nat → HS → Option (Unit × HS)
  | 0, _ => none
  | n + 1, S =>
    ck (mc cs 9 0) (
    if (gi S 9 0 0) ≤ (gi S 9 0 5) then (
      some ((), S))
    else (
      ck (mc cs 10 0) (
      ck (inb (gi S 9 0 5) 500) (
      ob (f_X7_isLetter cs N (gi S 10 0 (gi S 9 0 5).toNatClampNeg) S) (fun r5 S6 =>
      if r5 = 0 then (
        some ((), S6))
      else (
        lt_ (ui S6 9 0 5 ((gi S6 9 0 5) + (1 : Int32))) (fun S9 =>
        f_X7_skipLetters_0 cs N n  S9)))))))
set_option maxHeartbeats 4000000 in
set_option maxRecDepth 100000 in
theorem b_X7_skipLetters_0 {p : Program} {l : Launch} {e : Env} {s : State} {m : MethodId} {args : Array Value} {below : List Frame} {meth : Method} {c : Code} {D : va_G} {cy : Nat → ClassId} {cs : List (Nat × Nat)} {ad : Nat → Nat → Nat} {Zp : State → Prop} {r : Unit} {Z : HS} (B : Bd p s m args meth c D cy cs ad Zp cX7_skipLetters 1 RX7 none) (N : Nat)  : ∀ (n : Nat)  (S : HS), f_X7_skipLetters_0 cs N n  S = some (r, Z) → GW p l e rm_X7_skipLetters s m args below meth c (QM below args s D cy cs ad (none) Z) D cy cs ad 0 0 1 0 [(0, .ref (ad 9 0))] [] S := by
  have hA := B.2.2.2.2.2.2.1
  have hZ := B.2.2.2.2.2.2.2.2.2.2
  intro n
  induction n with
  | zero => intro  S h; cases h
  | succ n ih =>
    intro  S h
    rw [f_X7_skipLetters_0] at h
    refine g_aload_n B dX7_skipLetters_0 0 rfl rfl ?_
    obtain ⟨m1, h⟩ := ck_e h
    refine gt_X7_5 B m1 kf_X7_19 dX7_skipLetters_1 ?_
    refine g_aload_n B dX7_skipLetters_4 0 rfl rfl ?_
    refine gt_X7_0 B m1 kf_X7_15 dX7_skipLetters_5 ?_
    refine g_icmp_ge B 39 dX7_skipLetters_8 (by decide) (fun q2 => ?_) (fun q2 => ?_)
    · have h := if_t h q2
      obtain ⟨-, rfl⟩ := some_e h
      exact g_vret B dX7_skipLetters_39
    · have h := if_f h q2
      refine g_aload_n B dX7_skipLetters_11 0 rfl rfl ?_
      refine gt_X7_4 B m1 kf_X7_9 dX7_skipLetters_12 ?_
      refine g_aload_n B dX7_skipLetters_15 0 rfl rfl ?_
      refine gt_X7_5 B m1 kf_X7_19 dX7_skipLetters_16 ?_
      obtain ⟨m3, h⟩ := ck_e h
      obtain ⟨b4, h⟩ := ck_e h
      refine g_bald (n := 500) B m3 (fun _ => rfl) b4 dX7_skipLetters_19 ?_
      obtain ⟨r5, S6, e7, h⟩ := ob_e h
      refine g_csi (rest := []) B (c_X7_isLetter hA hZ N _ _ _ _ e7) mf_X7_isLetter km_X7_34 ⟨by decide, by decide⟩ ⟨rfl, rfl⟩ rfl rfl (Nat.le_of_ble_eq_true rfl) ⟨Nat.zero_le _, Nat.zero_le _⟩ dX7_skipLetters_20 ?_
      refine g_if_eq B 39 dX7_skipLetters_23 (by decide) (fun q8 => ?_) (fun q8 => ?_)
      · have h := if_t h q8
        obtain ⟨-, rfl⟩ := some_e h
        exact g_vret B dX7_skipLetters_39
      · have h := if_f h q8
        refine g_aload_n B dX7_skipLetters_26 0 rfl rfl ?_
        refine g_dup B dX7_skipLetters_27 rfl ?_
        refine gt_X7_5 B m1 kf_X7_19 dX7_skipLetters_28 ?_
        refine g_iconst (v := (1 : Int32)) B dX7_skipLetters_31 (by decide) ?_
        refine g_iadd B dX7_skipLetters_32 ?_
        obtain ⟨S9, e10, h⟩ := lt_e h
        refine pt_X7_5 B m1 kf_X7_19 e10 dX7_skipLetters_33 ?_
        refine g_goto B 0 dX7_skipLetters_36 (by decide) ?_
        exact ih  _ h
def f_X7_skipLetters (cs : List (Nat × Nat)) (N : Nat)  (S : HS) : Option (Unit × HS) :=
  f_X7_skipLetters_0 cs N N  S
set_option maxHeartbeats 4000000 in
set_option maxRecDepth 100000 in
theorem c_X7_skipLetters {l : Launch} {D : va_G} {cy : Nat → ClassId} {cs : List (Nat × Nat)} {ad : Nat → Nat → Nat} {Zp : State → Prop} (hA : AdOk cs ad) (hZ : ZOk cs ad Zp) (N : Nat)  (S : HS) (r : Unit) (Z : HS) (h : f_X7_skipLetters cs N  S = some (r, Z)) : Ctr Zp l yX7_skipLetters cX7_skipLetters 1 none rm_X7_skipLetters D cy cs ad [.ref (ad 9 0)] S (none) Z := by
  unfold f_X7_skipLetters at h
  refine Ctr.of hA hZ RX7 (plainFor_of_name (by decide)) rfl [(0, .ref (ad 9 0))] rfl (Nat.le_of_ble_eq_true rfl) (fun p e s m below meth c B => ?_)
  exact b_X7_skipLetters_0 B N N  _ h

def rm_X7_readNumber : Room := { frames := 1, cells := 0, slots := 0, locals := 20 }
def f_X7_readNumber_68 (cs : List (Nat × Nat)) (N : Nat)   (S : HS) : Option (Unit × HS) :=
  ck (mc cs 9 0) (
  if (2 : Int32) < ((gi S 9 0 5) - (gi S 9 0 2)) then (
    lt_ (ui S 9 0 1 (0 : Int32)) (fun S3 =>
    some ((), S3)))
  else (
    lt_ (ui S 9 0 1 (3 : Int32)) (fun S5 =>
    some ((), S5))))
set_option maxHeartbeats 4000000 in
set_option maxRecDepth 100000 in
theorem b_X7_readNumber_68 {p : Program} {l : Launch} {e : Env} {s : State} {m : MethodId} {args : Array Value} {below : List Frame} {meth : Method} {c : Code} {D : va_G} {cy : Nat → ClassId} {cs : List (Nat × Nat)} {ad : Nat → Nat → Nat} {Zp : State → Prop} {r : Unit} {Z : HS} (B : Bd p s m args meth c D cy cs ad Zp cX7_readNumber 1 RX7 none) (N : Nat)   (S : HS) (h : f_X7_readNumber_68 cs N  S = some (r, Z)) : GW p l e rm_X7_readNumber s m args below meth c (QM below args s D cy cs ad (none) Z) D cy cs ad 0 0 1 68 [(0, .ref (ad 9 0))] [] S := by
  have hA := B.2.2.2.2.2.2.1
  have hZ := B.2.2.2.2.2.2.2.2.2.2
  unfold f_X7_readNumber_68 at h
  refine g_aload_n B dX7_readNumber_68 0 rfl rfl ?_
  refine g_aload_n B dX7_readNumber_69 0 rfl rfl ?_
  obtain ⟨m1, h⟩ := ck_e h
  refine gt_X7_5 B m1 kf_X7_19 dX7_readNumber_70 ?_
  refine g_aload_n B dX7_readNumber_73 0 rfl rfl ?_
  refine gt_X7_2 B m1 kf_X7_28 dX7_readNumber_74 ?_
  refine g_isub B dX7_readNumber_77 ?_
  refine g_iconst (v := (2 : Int32)) B dX7_readNumber_78 (by decide) ?_
  refine g_icmp_gt B 86 dX7_readNumber_79 (by decide) (fun q2 => ?_) (fun q2 => ?_)
  · have h := if_t h q2
    refine g_iconst (v := (0 : Int32)) B dX7_readNumber_86 (by decide) ?_
    obtain ⟨S3, e4, h⟩ := lt_e h
    refine pt_X7_1 B m1 kf_X7_31 e4 dX7_readNumber_87 ?_
    obtain ⟨-, rfl⟩ := some_e h
    exact g_vret B dX7_readNumber_90
  · have h := if_f h q2
    refine g_iconst (v := (3 : Int32)) B dX7_readNumber_82 (by decide) ?_
    refine g_goto B 87 dX7_readNumber_83 (by decide) ?_
    obtain ⟨S5, e6, h⟩ := lt_e h
    refine pt_X7_1 B m1 kf_X7_31 e6 dX7_readNumber_87 ?_
    obtain ⟨-, rfl⟩ := some_e h
    exact g_vret B dX7_readNumber_90
def f_X7_readNumber_5 (cs : List (Nat × Nat)) (N : Nat)  : Nat → HS → Option (Unit × HS)
  | 0, _ => none
  | n + 1, S =>
    ck (mc cs 9 0) (
    if (gi S 9 0 0) ≤ (gi S 9 0 5) then (
      f_X7_readNumber_68 cs N  S)
    else (
      ck (mc cs 10 0) (
      ck (inb (gi S 9 0 5) 500) (
      ob (f_X7_isDigit cs N (gi S 10 0 (gi S 9 0 5).toNatClampNeg) S) (fun r5 S6 =>
      if r5 = 0 then (
        f_X7_readNumber_68 cs N  S6)
      else (
        ck (inb (gi S6 9 0 5) 500) (
        lt_ (ui S6 9 0 3 (((gi S6 9 0 3) * (10 : Int32)) + ((gi S6 10 0 (gi S6 9 0 5).toNatClampNeg) - (48 : Int32)))) (fun S10 =>
        lt_ (ui S10 9 0 5 ((gi S10 9 0 5) + (1 : Int32))) (fun S12 =>
        f_X7_readNumber_5 cs N n  S12)))))))))
set_option maxHeartbeats 4000000 in
set_option maxRecDepth 100000 in
theorem b_X7_readNumber_5 {p : Program} {l : Launch} {e : Env} {s : State} {m : MethodId} {args : Array Value} {below : List Frame} {meth : Method} {c : Code} {D : va_G} {cy : Nat → ClassId} {cs : List (Nat × Nat)} {ad : Nat → Nat → Nat} {Zp : State → Prop} {r : Unit} {Z : HS} (B : Bd p s m args meth c D cy cs ad Zp cX7_readNumber 1 RX7 none) (N : Nat)  : ∀ (n : Nat)  (S : HS), f_X7_readNumber_5 cs N n  S = some (r, Z) → GW p l e rm_X7_readNumber s m args below meth c (QM below args s D cy cs ad (none) Z) D cy cs ad 0 0 1 5 [(0, .ref (ad 9 0))] [] S := by
  have hA := B.2.2.2.2.2.2.1
  have hZ := B.2.2.2.2.2.2.2.2.2.2
  intro n
  induction n with
  | zero => intro  S h; cases h
  | succ n ih =>
    intro  S h
    rw [f_X7_readNumber_5] at h
    refine g_aload_n B dX7_readNumber_5 0 rfl rfl ?_
    obtain ⟨m1, h⟩ := ck_e h
    refine gt_X7_5 B m1 kf_X7_19 dX7_readNumber_6 ?_
    refine g_aload_n B dX7_readNumber_9 0 rfl rfl ?_
    refine gt_X7_0 B m1 kf_X7_15 dX7_readNumber_10 ?_
    refine g_icmp_ge B 68 dX7_readNumber_13 (by decide) (fun q2 => ?_) (fun q2 => ?_)
    · have h := if_t h q2
      exact b_X7_readNumber_68 B N  _ h
    · have h := if_f h q2
      refine g_aload_n B dX7_readNumber_16 0 rfl rfl ?_
      refine gt_X7_4 B m1 kf_X7_9 dX7_readNumber_17 ?_
      refine g_aload_n B dX7_readNumber_20 0 rfl rfl ?_
      refine gt_X7_5 B m1 kf_X7_19 dX7_readNumber_21 ?_
      obtain ⟨m3, h⟩ := ck_e h
      obtain ⟨b4, h⟩ := ck_e h
      refine g_bald (n := 500) B m3 (fun _ => rfl) b4 dX7_readNumber_24 ?_
      obtain ⟨r5, S6, e7, h⟩ := ob_e h
      refine g_csi (rest := []) B (c_X7_isDigit hA hZ N _ _ _ _ e7) mf_X7_isDigit km_X7_45 ⟨by decide, by decide⟩ ⟨rfl, rfl⟩ rfl rfl (Nat.le_of_ble_eq_true rfl) ⟨Nat.zero_le _, Nat.zero_le _⟩ dX7_readNumber_25 ?_
      refine g_if_eq B 68 dX7_readNumber_28 (by decide) (fun q8 => ?_) (fun q8 => ?_)
      · have h := if_t h q8
        exact b_X7_readNumber_68 B N  _ h
      · have h := if_f h q8
        refine g_aload_n B dX7_readNumber_31 0 rfl rfl ?_
        refine g_aload_n B dX7_readNumber_32 0 rfl rfl ?_
        refine gt_X7_3 B m1 kf_X7_51 dX7_readNumber_33 ?_
        refine g_bipush (v := (10 : Int32)) B dX7_readNumber_36 (by decide) ?_
        refine g_imul B dX7_readNumber_38 ?_
        refine g_aload_n B dX7_readNumber_39 0 rfl rfl ?_
        refine gt_X7_4 B m1 kf_X7_9 dX7_readNumber_40 ?_
        refine g_aload_n B dX7_readNumber_43 0 rfl rfl ?_
        refine gt_X7_5 B m1 kf_X7_19 dX7_readNumber_44 ?_
        obtain ⟨b9, h⟩ := ck_e h
        refine g_bald (n := 500) B m3 (fun _ => rfl) b9 dX7_readNumber_47 ?_
        refine g_bipush (v := (48 : Int32)) B dX7_readNumber_48 (by decide) ?_
        refine g_isub B dX7_readNumber_50 ?_
        refine g_iadd B dX7_readNumber_51 ?_
        obtain ⟨S10, e11, h⟩ := lt_e h
        refine pt_X7_3 B m1 kf_X7_51 e11 dX7_readNumber_52 ?_
        refine g_aload_n B dX7_readNumber_55 0 rfl rfl ?_
        refine g_dup B dX7_readNumber_56 rfl ?_
        refine gt_X7_5 B m1 kf_X7_19 dX7_readNumber_57 ?_
        refine g_iconst (v := (1 : Int32)) B dX7_readNumber_60 (by decide) ?_
        refine g_iadd B dX7_readNumber_61 ?_
        obtain ⟨S12, e13, h⟩ := lt_e h
        refine pt_X7_5 B m1 kf_X7_19 e13 dX7_readNumber_62 ?_
        refine g_goto B 5 dX7_readNumber_65 (by decide) ?_
        exact ih  _ h
def f_X7_readNumber (cs : List (Nat × Nat)) (N : Nat)  (S : HS) : Option (Unit × HS) :=
  ck (mc cs 9 0) (
  lt_ (ui S 9 0 3 (0 : Int32)) (fun S2 =>
  f_X7_readNumber_5 cs N N  S2))
set_option maxHeartbeats 4000000 in
set_option maxRecDepth 100000 in
theorem c_X7_readNumber {l : Launch} {D : va_G} {cy : Nat → ClassId} {cs : List (Nat × Nat)} {ad : Nat → Nat → Nat} {Zp : State → Prop} (hA : AdOk cs ad) (hZ : ZOk cs ad Zp) (N : Nat)  (S : HS) (r : Unit) (Z : HS) (h : f_X7_readNumber cs N  S = some (r, Z)) : Ctr Zp l yX7_readNumber cX7_readNumber 1 none rm_X7_readNumber D cy cs ad [.ref (ad 9 0)] S (none) Z := by
  unfold f_X7_readNumber at h
  refine Ctr.of hA hZ RX7 (plainFor_of_name (by decide)) rfl [(0, .ref (ad 9 0))] rfl (Nat.le_of_ble_eq_true rfl) (fun p e s m below meth c B => ?_)
  refine g_aload_n B dX7_readNumber_0 0 rfl rfl ?_
  refine g_iconst (v := (0 : Int32)) B dX7_readNumber_1 (by decide) ?_
  obtain ⟨m1, h⟩ := ck_e h
  obtain ⟨S2, e3, h⟩ := lt_e h
  refine pt_X7_3 B m1 kf_X7_51 e3 dX7_readNumber_2 ?_
  exact b_X7_readNumber_5 B N N  _ h

def rm_X7_keyword : Room := { frames := 5, cells := 0, slots := 0, locals := 107 }
def f_X7_keyword (cs : List (Nat × Nat)) (N : Nat)  (S : HS) : Option (Int32 × HS) :=
  ck (mc cs 9 0) (
  ob (f_X7_isWord cs N 0 S) (fun r2 S3 =>
  if r2 = 0 then (
    ob (f_X7_isWord cs N 1 S3) (fun r6 S7 =>
    if r6 = 0 then (
      ob (f_X7_isWord cs N 2 S7) (fun r10 S11 =>
      if r10 = 0 then (
        ob (f_X7_isWord cs N 3 S11) (fun r14 S15 =>
        if r14 = 0 then (
          ob (f_X7_isWord cs N 4 S15) (fun r18 S19 =>
          if r18 = 0 then (
            ob (f_X7_isWord cs N 5 S19) (fun r22 S23 =>
            if r22 = 0 then (
              ob (f_X7_isWord cs N 6 S23) (fun r26 S27 =>
              if r26 = 0 then (
                ob (f_X7_isWord cs N 7 S27) (fun r30 S31 =>
                if r30 = 0 then (
                  some ((0 : Int32), S31))
                else (
                  some ((11 : Int32), S31))))
              else (
                some ((10 : Int32), S27))))
            else (
              some ((9 : Int32), S23))))
          else (
            some ((8 : Int32), S19))))
        else (
          some ((7 : Int32), S15))))
      else (
        some ((6 : Int32), S11))))
    else (
      some ((5 : Int32), S7))))
  else (
    some ((4 : Int32), S3))))
set_option maxHeartbeats 4000000 in
set_option maxRecDepth 100000 in
theorem c_X7_keyword {l : Launch} {D : va_G} {cy : Nat → ClassId} {cs : List (Nat × Nat)} {ad : Nat → Nat → Nat} (hA : AdOk cs ad) (N : Nat)  (S : HS) (r : Int32) (Z : HS) (h : f_X7_keyword cs N  S = some (r, Z)) : Ctr (gZ cs ad) l yX7_keyword cX7_keyword 1 (some .int) rm_X7_keyword D cy cs ad [.ref (ad 9 0)] S (some (.int r)) Z := by
  have hZ := gZ_ok cs ad
  unfold f_X7_keyword at h
  refine Ctr.of hA (gZ_ok cs ad) RX7 (plainFor_of_name (by decide)) rfl [(0, .ref (ad 9 0))] rfl (Nat.le_of_ble_eq_true rfl) (fun p e s m below meth c B => ?_)
  refine g_aload_n B dX7_keyword_0 0 rfl rfl ?_
  refine g_lds RX7 B (i := 0) (by decide) rfl dX7_keyword_1 ?_
  obtain ⟨m1, h⟩ := ck_e h
  obtain ⟨r2, S3, e4, h⟩ := ob_e h
  refine g_cvi (rest := []) B (c_X7_isWord hA N _ _ _ _ e4) mf_X7_isWord km_X7_56 ⟨by decide, by decide⟩ ⟨rfl, rfl⟩ m1 rfl rfl rfl rfl (Nat.le_of_ble_eq_true rfl) ⟨Nat.zero_le _, Nat.zero_le _⟩ dX7_keyword_3 ?_
  refine g_if_eq B 11 dX7_keyword_6 (by decide) (fun q5 => ?_) (fun q5 => ?_)
  · have h := if_t h q5
    refine g_aload_n B dX7_keyword_11 0 rfl rfl ?_
    refine g_lds RX7 B (i := 1) (by decide) rfl dX7_keyword_12 ?_
    obtain ⟨r6, S7, e8, h⟩ := ob_e h
    refine g_cvi (rest := []) B (c_X7_isWord hA N _ _ _ _ e8) mf_X7_isWord km_X7_56 ⟨by decide, by decide⟩ ⟨rfl, rfl⟩ m1 rfl rfl rfl rfl (Nat.le_of_ble_eq_true rfl) ⟨Nat.zero_le _, Nat.zero_le _⟩ dX7_keyword_14 ?_
    refine g_if_eq B 22 dX7_keyword_17 (by decide) (fun q9 => ?_) (fun q9 => ?_)
    · have h := if_t h q9
      refine g_aload_n B dX7_keyword_22 0 rfl rfl ?_
      refine g_lds RX7 B (i := 2) (by decide) rfl dX7_keyword_23 ?_
      obtain ⟨r10, S11, e12, h⟩ := ob_e h
      refine g_cvi (rest := []) B (c_X7_isWord hA N _ _ _ _ e12) mf_X7_isWord km_X7_56 ⟨by decide, by decide⟩ ⟨rfl, rfl⟩ m1 rfl rfl rfl rfl (Nat.le_of_ble_eq_true rfl) ⟨Nat.zero_le _, Nat.zero_le _⟩ dX7_keyword_25 ?_
      refine g_if_eq B 34 dX7_keyword_28 (by decide) (fun q13 => ?_) (fun q13 => ?_)
      · have h := if_t h q13
        refine g_aload_n B dX7_keyword_34 0 rfl rfl ?_
        refine g_lds RX7 B (i := 3) (by decide) rfl dX7_keyword_35 ?_
        obtain ⟨r14, S15, e16, h⟩ := ob_e h
        refine g_cvi (rest := []) B (c_X7_isWord hA N _ _ _ _ e16) mf_X7_isWord km_X7_56 ⟨by decide, by decide⟩ ⟨rfl, rfl⟩ m1 rfl rfl rfl rfl (Nat.le_of_ble_eq_true rfl) ⟨Nat.zero_le _, Nat.zero_le _⟩ dX7_keyword_37 ?_
        refine g_if_eq B 46 dX7_keyword_40 (by decide) (fun q17 => ?_) (fun q17 => ?_)
        · have h := if_t h q17
          refine g_aload_n B dX7_keyword_46 0 rfl rfl ?_
          refine g_lds RX7 B (i := 4) (by decide) rfl dX7_keyword_47 ?_
          obtain ⟨r18, S19, e20, h⟩ := ob_e h
          refine g_cvi (rest := []) B (c_X7_isWord hA N _ _ _ _ e20) mf_X7_isWord km_X7_56 ⟨by decide, by decide⟩ ⟨rfl, rfl⟩ m1 rfl rfl rfl rfl (Nat.le_of_ble_eq_true rfl) ⟨Nat.zero_le _, Nat.zero_le _⟩ dX7_keyword_49 ?_
          refine g_if_eq B 58 dX7_keyword_52 (by decide) (fun q21 => ?_) (fun q21 => ?_)
          · have h := if_t h q21
            refine g_aload_n B dX7_keyword_58 0 rfl rfl ?_
            refine g_lds RX7 B (i := 5) (by decide) rfl dX7_keyword_59 ?_
            obtain ⟨r22, S23, e24, h⟩ := ob_e h
            refine g_cvi (rest := []) B (c_X7_isWord hA N _ _ _ _ e24) mf_X7_isWord km_X7_56 ⟨by decide, by decide⟩ ⟨rfl, rfl⟩ m1 rfl rfl rfl rfl (Nat.le_of_ble_eq_true rfl) ⟨Nat.zero_le _, Nat.zero_le _⟩ dX7_keyword_61 ?_
            refine g_if_eq B 70 dX7_keyword_64 (by decide) (fun q25 => ?_) (fun q25 => ?_)
            · have h := if_t h q25
              refine g_aload_n B dX7_keyword_70 0 rfl rfl ?_
              refine g_lds RX7 B (i := 6) (by decide) rfl dX7_keyword_71 ?_
              obtain ⟨r26, S27, e28, h⟩ := ob_e h
              refine g_cvi (rest := []) B (c_X7_isWord hA N _ _ _ _ e28) mf_X7_isWord km_X7_56 ⟨by decide, by decide⟩ ⟨rfl, rfl⟩ m1 rfl rfl rfl rfl (Nat.le_of_ble_eq_true rfl) ⟨Nat.zero_le _, Nat.zero_le _⟩ dX7_keyword_73 ?_
              refine g_if_eq B 82 dX7_keyword_76 (by decide) (fun q29 => ?_) (fun q29 => ?_)
              · have h := if_t h q29
                refine g_aload_n B dX7_keyword_82 0 rfl rfl ?_
                refine g_lds RX7 B (i := 7) (by decide) rfl dX7_keyword_83 ?_
                obtain ⟨r30, S31, e32, h⟩ := ob_e h
                refine g_cvi (rest := []) B (c_X7_isWord hA N _ _ _ _ e32) mf_X7_isWord km_X7_56 ⟨by decide, by decide⟩ ⟨rfl, rfl⟩ m1 rfl rfl rfl rfl (Nat.le_of_ble_eq_true rfl) ⟨Nat.zero_le _, Nat.zero_le _⟩ dX7_keyword_85 ?_
                refine g_if_eq B 96 dX7_keyword_88 (by decide) (fun q33 => ?_) (fun q33 => ?_)
                · have h := if_t h q33
                  refine g_iconst (v := (0 : Int32)) B dX7_keyword_96 (by decide) ?_
                  obtain ⟨rfl, rfl⟩ := some_e h
                  exact g_iret B dX7_keyword_97
                · have h := if_f h q33
                  refine g_bipush (v := (11 : Int32)) B dX7_keyword_91 (by decide) ?_
                  refine g_goto B 97 dX7_keyword_93 (by decide) ?_
                  obtain ⟨rfl, rfl⟩ := some_e h
                  exact g_iret B dX7_keyword_97
              · have h := if_f h q29
                refine g_bipush (v := (10 : Int32)) B dX7_keyword_79 (by decide) ?_
                obtain ⟨rfl, rfl⟩ := some_e h
                exact g_iret B dX7_keyword_81
            · have h := if_f h q25
              refine g_bipush (v := (9 : Int32)) B dX7_keyword_67 (by decide) ?_
              obtain ⟨rfl, rfl⟩ := some_e h
              exact g_iret B dX7_keyword_69
          · have h := if_f h q21
            refine g_bipush (v := (8 : Int32)) B dX7_keyword_55 (by decide) ?_
            obtain ⟨rfl, rfl⟩ := some_e h
            exact g_iret B dX7_keyword_57
        · have h := if_f h q17
          refine g_bipush (v := (7 : Int32)) B dX7_keyword_43 (by decide) ?_
          obtain ⟨rfl, rfl⟩ := some_e h
          exact g_iret B dX7_keyword_45
      · have h := if_f h q13
        refine g_bipush (v := (6 : Int32)) B dX7_keyword_31 (by decide) ?_
        obtain ⟨rfl, rfl⟩ := some_e h
        exact g_iret B dX7_keyword_33
    · have h := if_f h q9
      refine g_iconst (v := (5 : Int32)) B dX7_keyword_20 (by decide) ?_
      obtain ⟨rfl, rfl⟩ := some_e h
      exact g_iret B dX7_keyword_21
  · have h := if_f h q5
    refine g_iconst (v := (4 : Int32)) B dX7_keyword_9 (by decide) ?_
    obtain ⟨rfl, rfl⟩ := some_e h
    exact g_iret B dX7_keyword_10

def rm_X8_pattern : Room := { frames := 2, cells := 0, slots := 0, locals := 44 }
def f_X8_pattern_74 (cs : List (Nat × Nat)) (N : Nat)  : Nat → Int32 → Int32 → HS → Option (Int32 × HS)
  | 0, _, _, _ => none
  | n + 1, v1, v5, S =>
    ck (mc cs 0 0) (
    if (gi S 0 0 9) ≤ v5 then (
      lt_ (ui S 0 0 7 (0 : Int32)) (fun S3 =>
      some ((1 : Int32), S3)))
    else (
      ck (mc cs 3 0) (
      ck (inb v5 7) (
      ck (mc cs 7 (v5.toNatClampNeg)) (
      if (gi S 7 (v5.toNatClampNeg) 8) = 0 then (
        ck (inb v5 7) (
        if (gi S 7 (v5.toNatClampNeg) 1) = v1 then (
          ck (inb v5 7) (
          ck (mc cs 2 0) (
          ck (inb v1 6) (
          ob (f_X6_reckonAnew cs N (v5.toNatClampNeg) (v1.toNatClampNeg) S) (fun r18 S19 =>
          lt_ (v5 + (1 : Int32)) (fun x21 =>
          f_X8_pattern_74 cs N n v1 x21 S19))))))
        else (
          lt_ (v5 + (1 : Int32)) (fun x13 =>
          f_X8_pattern_74 cs N n v1 x13 S))))
      else (
        lt_ (v5 + (1 : Int32)) (fun x9 =>
        f_X8_pattern_74 cs N n v1 x9 S)))))))
set_option maxHeartbeats 4000000 in
set_option maxRecDepth 100000 in
theorem b_X8_pattern_74 {p : Program} {l : Launch} {e : Env} {s : State} {m : MethodId} {args : Array Value} {below : List Frame} {meth : Method} {c : Code} {D : va_G} {cy : Nat → ClassId} {cs : List (Nat × Nat)} {ad : Nat → Nat → Nat} {Zp : State → Prop} {r : Int32} {Z : HS} (B : Bd p s m args meth c D cy cs ad Zp cX8_pattern 6 RX8 (some .boolean)) (N : Nat)  : ∀ (n : Nat) (v1 : Int32) (v5 : Int32) (S : HS), f_X8_pattern_74 cs N n v1 v5 S = some (r, Z) → GW p l e rm_X8_pattern s m args below meth c (QM below args s D cy cs ad (some (.int r)) Z) D cy cs ad 0 0 6 74 [(0, .ref (ad 0 0)), (1, .int v1), (5, .int v5)] [] S := by
  have hA := B.2.2.2.2.2.2.1
  have hZ := B.2.2.2.2.2.2.2.2.2.2
  intro n
  induction n with
  | zero => intro v1 v5 S h; cases h
  | succ n ih =>
    intro v1 v5 S h
    rw [f_X8_pattern_74] at h
    refine g_iload B dX8_pattern_74 2 rfl ?_
    refine g_aload_n B dX8_pattern_76 0 rfl rfl ?_
    obtain ⟨m1, h⟩ := ck_e h
    refine gt_X8_9 B m1 kf_X8_87 dX8_pattern_77 ?_
    refine g_icmp_ge B 132 dX8_pattern_80 (by decide) (fun q2 => ?_) (fun q2 => ?_)
    · have h := if_t h q2
      refine g_aload_n B dX8_pattern_132 0 rfl rfl ?_
      refine g_iconst (v := (0 : Int32)) B dX8_pattern_133 (by decide) ?_
      obtain ⟨S3, e4, h⟩ := lt_e h
      refine pt_X8_7 B m1 kf_X8_71 (by decide) e4 dX8_pattern_134 ?_
      refine g_iconst (v := (1 : Int32)) B dX8_pattern_137 (by decide) ?_
      obtain ⟨rfl, rfl⟩ := some_e h
      exact g_zret B (by decide) dX8_pattern_138
    · have h := if_f h q2
      refine g_aload_n B dX8_pattern_83 0 rfl rfl ?_
      refine gt_X8_2 B m1 kf_X8_23 dX8_pattern_84 ?_
      refine g_iload B dX8_pattern_87 2 rfl ?_
      obtain ⟨m5, h⟩ := ck_e h
      obtain ⟨b6, h⟩ := ck_e h
      refine g_aald (t0 := 6) (a := ad 7 (v5.toNatClampNeg)) B rfl rfl m5 rfl b6 rfl dX8_pattern_89 ?_
      obtain ⟨m7, h⟩ := ck_e h
      refine gt_X6_8 B m7 kf_X8_90 dX8_pattern_90 ?_
      refine g_if_ne B 126 dX8_pattern_93 (by decide) (fun q8 => ?_) (fun q8 => ?_)
      · have h := if_f h q8
        obtain ⟨x9, e10, h⟩ := lt_e h
        refine g_iinc (v := x9) (lv' := [(5, .int x9), (0, .ref (ad 0 0)), (1, .int v1)]) B dX8_pattern_126 (k := 2) rfl (by rw [e10]; rfl) (by decide) rfl ?_
        refine g_goto B 74 dX8_pattern_129 (by decide) ?_
        refine g_sub [1, 2, 0] rfl ?_
        exact ih _ _ _ h
      · have h := if_t h q8
        refine g_aload_n B dX8_pattern_96 0 rfl rfl ?_
        refine gt_X8_2 B m1 kf_X8_23 dX8_pattern_97 ?_
        refine g_iload B dX8_pattern_100 2 rfl ?_
        obtain ⟨b11, h⟩ := ck_e h
        refine g_aald (t0 := 6) (a := ad 7 (v5.toNatClampNeg)) B rfl rfl m5 rfl b11 rfl dX8_pattern_102 ?_
        refine gt_X6_1 B m7 kf_X8_93 dX8_pattern_103 ?_
        refine g_iload_n B dX8_pattern_106 1 rfl rfl ?_
        refine g_icmp_ne B 126 dX8_pattern_107 (by decide) (fun q12 => ?_) (fun q12 => ?_)
        · have h := if_f h q12
          obtain ⟨x13, e14, h⟩ := lt_e h
          refine g_iinc (v := x13) (lv' := [(5, .int x13), (0, .ref (ad 0 0)), (1, .int v1)]) B dX8_pattern_126 (k := 2) rfl (by rw [e14]; rfl) (by decide) rfl ?_
          refine g_goto B 74 dX8_pattern_129 (by decide) ?_
          refine g_sub [1, 2, 0] rfl ?_
          exact ih _ _ _ h
        · have h := if_t h q12
          refine g_aload_n B dX8_pattern_110 0 rfl rfl ?_
          refine gt_X8_2 B m1 kf_X8_23 dX8_pattern_111 ?_
          refine g_iload B dX8_pattern_114 2 rfl ?_
          obtain ⟨b15, h⟩ := ck_e h
          refine g_aald (t0 := 6) (a := ad 7 (v5.toNatClampNeg)) B rfl rfl m5 rfl b15 rfl dX8_pattern_116 ?_
          refine g_aload_n B dX8_pattern_117 0 rfl rfl ?_
          refine gt_X8_1 B m1 kf_X8_17 dX8_pattern_118 ?_
          refine g_iload_n B dX8_pattern_121 1 rfl rfl ?_
          obtain ⟨m16, h⟩ := ck_e h
          obtain ⟨b17, h⟩ := ck_e h
          refine g_aald (t0 := 5) (a := ad 6 (v1.toNatClampNeg)) B rfl rfl m16 rfl b17 rfl dX8_pattern_122 ?_
          obtain ⟨r18, S19, e20, h⟩ := ob_e h
          refine g_cvv (rest := []) B (c_X6_reckonAnew hA hZ N _ _ _ _ _ e20) mf_X6_reckonAnew km_X8_96 ⟨by decide, by decide⟩ ⟨rfl, rfl⟩ m7 rfl rfl rfl rfl (Nat.le_of_ble_eq_true rfl) ⟨Nat.zero_le _, Nat.zero_le _⟩ dX8_pattern_123 ?_
          obtain ⟨x21, e22, h⟩ := lt_e h
          refine g_iinc (v := x21) (lv' := [(5, .int x21), (0, .ref (ad 0 0)), (1, .int v1)]) B dX8_pattern_126 (k := 2) rfl (by rw [e22]; rfl) (by decide) rfl ?_
          refine g_goto B 74 dX8_pattern_129 (by decide) ?_
          refine g_sub [1, 2, 0] rfl ?_
          exact ih _ _ _ h
def f_X8_pattern (cs : List (Nat × Nat)) (N : Nat) (a1 : Int32) (a2 : Int32) (a3 : Int32) (a4 : Int32) (S : HS) : Option (Int32 × HS) :=
  ob (f_X8_isPattern cs N a1 S) (fun r1 S2 =>
  if r1 = 0 then (
    some ((0 : Int32), S2))
  else (
    ob (f_X8_isWithin cs N a2 (1 : Int32) (30 : Int32) S2) (fun r5 S6 =>
    if r5 = 0 then (
      some ((0 : Int32), S6))
    else (
      ob (f_X8_isWithin cs N a3 (0 : Int32) (20 : Int32) S6) (fun r9 S10 =>
      if r9 = 0 then (
        some ((0 : Int32), S10))
      else (
        ob (f_X8_isWithin cs N a4 (0 : Int32) (90 : Int32) S10) (fun r13 S14 =>
        if r13 = 0 then (
          some ((0 : Int32), S14))
        else (
          ck (mc cs 0 0) (
          ck (mc cs 2 0) (
          ck (inb a1 6) (
          ck (mc cs 6 (a1.toNatClampNeg)) (
          lt_ (ui S14 6 (a1.toNatClampNeg) 0 a2) (fun S21 =>
          ck (inb a1 6) (
          lt_ (ui S21 6 (a1.toNatClampNeg) 1 a3) (fun S24 =>
          ck (inb a1 6) (
          lt_ (ui S24 6 (a1.toNatClampNeg) 2 a4) (fun S27 =>
          f_X8_pattern_74 cs N N a1 (0 : Int32) S27)))))))))))))))))
set_option maxHeartbeats 4000000 in
set_option maxRecDepth 100000 in
theorem c_X8_pattern {l : Launch} {D : va_G} {cy : Nat → ClassId} {cs : List (Nat × Nat)} {ad : Nat → Nat → Nat} {Zp : State → Prop} (hA : AdOk cs ad) (hZ : ZOk cs ad Zp) (N : Nat) (a1 : Int32) (a2 : Int32) (a3 : Int32) (a4 : Int32) (S : HS) (r : Int32) (Z : HS) (h : f_X8_pattern cs N a1 a2 a3 a4 S = some (r, Z)) : Ctr Zp l yX8_pattern cX8_pattern 6 (some .boolean) rm_X8_pattern D cy cs ad [.ref (ad 0 0), .int a1, .int a2, .int a3, .int a4] S (some (.int r)) Z := by
  unfold f_X8_pattern at h
  refine Ctr.of hA hZ RX8 (plainFor_of_name (by decide)) rfl [(0, .ref (ad 0 0)), (1, .int a1), (2, .int a2), (3, .int a3), (4, .int a4)] rfl (Nat.le_of_ble_eq_true rfl) (fun p e s m below meth c B => ?_)
  refine g_iload_n B dX8_pattern_0 1 rfl rfl ?_
  obtain ⟨r1, S2, e3, h⟩ := ob_e h
  refine g_csi (rest := []) B (c_X8_isPattern hA hZ N _ _ _ _ e3) mf_X8_isPattern km_X8_75 ⟨by decide, by decide⟩ ⟨rfl, rfl⟩ rfl rfl (Nat.le_of_ble_eq_true rfl) ⟨Nat.zero_le _, Nat.zero_le _⟩ dX8_pattern_1 ?_
  refine g_if_eq B 38 dX8_pattern_4 (by decide) (fun q4 => ?_) (fun q4 => ?_)
  · have h := if_t h q4
    refine g_iconst (v := (0 : Int32)) B dX8_pattern_38 (by decide) ?_
    obtain ⟨rfl, rfl⟩ := some_e h
    exact g_zret B (by decide) dX8_pattern_39
  · have h := if_f h q4
    refine g_iload_n B dX8_pattern_7 2 rfl rfl ?_
    refine g_iconst (v := (1 : Int32)) B dX8_pattern_8 (by decide) ?_
    refine g_bipush (v := (30 : Int32)) B dX8_pattern_9 (by decide) ?_
    obtain ⟨r5, S6, e7, h⟩ := ob_e h
    refine g_csi (rest := []) B (c_X8_isWithin hA hZ N _ _ _ _ _ _ e7) mf_X8_isWithin km_X8_63 ⟨by decide, by decide⟩ ⟨rfl, rfl⟩ rfl rfl (Nat.le_of_ble_eq_true rfl) ⟨Nat.zero_le _, Nat.zero_le _⟩ dX8_pattern_11 ?_
    refine g_if_eq B 38 dX8_pattern_14 (by decide) (fun q8 => ?_) (fun q8 => ?_)
    · have h := if_t h q8
      refine g_iconst (v := (0 : Int32)) B dX8_pattern_38 (by decide) ?_
      obtain ⟨rfl, rfl⟩ := some_e h
      exact g_zret B (by decide) dX8_pattern_39
    · have h := if_f h q8
      refine g_iload_n B dX8_pattern_17 3 rfl rfl ?_
      refine g_iconst (v := (0 : Int32)) B dX8_pattern_18 (by decide) ?_
      refine g_bipush (v := (20 : Int32)) B dX8_pattern_19 (by decide) ?_
      obtain ⟨r9, S10, e11, h⟩ := ob_e h
      refine g_csi (rest := []) B (c_X8_isWithin hA hZ N _ _ _ _ _ _ e11) mf_X8_isWithin km_X8_63 ⟨by decide, by decide⟩ ⟨rfl, rfl⟩ rfl rfl (Nat.le_of_ble_eq_true rfl) ⟨Nat.zero_le _, Nat.zero_le _⟩ dX8_pattern_21 ?_
      refine g_if_eq B 38 dX8_pattern_24 (by decide) (fun q12 => ?_) (fun q12 => ?_)
      · have h := if_t h q12
        refine g_iconst (v := (0 : Int32)) B dX8_pattern_38 (by decide) ?_
        obtain ⟨rfl, rfl⟩ := some_e h
        exact g_zret B (by decide) dX8_pattern_39
      · have h := if_f h q12
        refine g_iload B dX8_pattern_27 4 rfl ?_
        refine g_iconst (v := (0 : Int32)) B dX8_pattern_29 (by decide) ?_
        refine g_bipush (v := (90 : Int32)) B dX8_pattern_30 (by decide) ?_
        obtain ⟨r13, S14, e15, h⟩ := ob_e h
        refine g_csi (rest := []) B (c_X8_isWithin hA hZ N _ _ _ _ _ _ e15) mf_X8_isWithin km_X8_63 ⟨by decide, by decide⟩ ⟨rfl, rfl⟩ rfl rfl (Nat.le_of_ble_eq_true rfl) ⟨Nat.zero_le _, Nat.zero_le _⟩ dX8_pattern_32 ?_
        refine g_if_ne B 40 dX8_pattern_35 (by decide) (fun q16 => ?_) (fun q16 => ?_)
        · have h := if_f h q16
          refine g_aload_n B dX8_pattern_40 0 rfl rfl ?_
          obtain ⟨m17, h⟩ := ck_e h
          refine gt_X8_1 B m17 kf_X8_17 dX8_pattern_41 ?_
          refine g_iload_n B dX8_pattern_44 1 rfl rfl ?_
          obtain ⟨m18, h⟩ := ck_e h
          obtain ⟨b19, h⟩ := ck_e h
          refine g_aald (t0 := 5) (a := ad 6 (a1.toNatClampNeg)) B rfl rfl m18 rfl b19 rfl dX8_pattern_45 ?_
          refine g_iload_n B dX8_pattern_46 2 rfl rfl ?_
          obtain ⟨m20, h⟩ := ck_e h
          obtain ⟨S21, e22, h⟩ := lt_e h
          refine pt_X3_0 B m20 kf_X8_78 e22 dX8_pattern_47 ?_
          refine g_aload_n B dX8_pattern_50 0 rfl rfl ?_
          refine gt_X8_1 B m17 kf_X8_17 dX8_pattern_51 ?_
          refine g_iload_n B dX8_pattern_54 1 rfl rfl ?_
          obtain ⟨b23, h⟩ := ck_e h
          refine g_aald (t0 := 5) (a := ad 6 (a1.toNatClampNeg)) B rfl rfl m18 rfl b23 rfl dX8_pattern_55 ?_
          refine g_iload_n B dX8_pattern_56 3 rfl rfl ?_
          obtain ⟨S24, e25, h⟩ := lt_e h
          refine pt_X3_1 B m20 kf_X8_81 e25 dX8_pattern_57 ?_
          refine g_aload_n B dX8_pattern_60 0 rfl rfl ?_
          refine gt_X8_1 B m17 kf_X8_17 dX8_pattern_61 ?_
          refine g_iload_n B dX8_pattern_64 1 rfl rfl ?_
          obtain ⟨b26, h⟩ := ck_e h
          refine g_aald (t0 := 5) (a := ad 6 (a1.toNatClampNeg)) B rfl rfl m18 rfl b26 rfl dX8_pattern_65 ?_
          refine g_iload B dX8_pattern_66 4 rfl ?_
          obtain ⟨S27, e28, h⟩ := lt_e h
          refine pt_X3_2 B m20 kf_X8_84 e28 dX8_pattern_68 ?_
          refine g_iconst (v := (0 : Int32)) B dX8_pattern_71 (by decide) ?_
          refine g_istore (lv' := [(5, .int (0 : Int32)), (0, .ref (ad 0 0)), (1, .int a1), (2, .int a2), (3, .int a3), (4, .int a4)]) B dX8_pattern_72 (by decide) rfl ?_
          refine g_sub [1, 2, 0] rfl ?_
          exact b_X8_pattern_74 B N N _ _ _ h
        · have h := if_t h q16
          refine g_iconst (v := (0 : Int32)) B dX8_pattern_38 (by decide) ?_
          obtain ⟨rfl, rfl⟩ := some_e h
          exact g_zret B (by decide) dX8_pattern_39

def rm_X8_lend : Room := { frames := 1, cells := 0, slots := 0, locals := 22 }
def f_X8_lend (cs : List (Nat × Nat)) (N : Nat) (a1 : Int32) (a2 : Int32) (S : HS) : Option (Int32 × HS) :=
  ob (f_X8_isFamily cs N a1 S) (fun r1 S2 =>
  if r1 = 0 then (
    some ((0 : Int32), S2))
  else (
    ob (f_X8_isWithin cs N a2 (1 : Int32) (9999 : Int32) S2) (fun r5 S6 =>
    if r5 = 0 then (
      some ((0 : Int32), S6))
    else (
      ck (mc cs 0 0) (
      ck (mc cs 1 0) (
      ck (inb a1 4) (
      ck (mc cs 4 (a1.toNatClampNeg)) (
      if ((gi S6 4 (a1.toNatClampNeg) 2) + a2) ≤ (99999 : Int32) then (
        ck (inb a1 4) (
        lt_ (ui S6 4 (a1.toNatClampNeg) 2 ((gi S6 4 (a1.toNatClampNeg) 2) + a2)) (fun S15 =>
        lt_ (ui S15 0 0 7 (0 : Int32)) (fun S17 =>
        some ((1 : Int32), S17)))))
      else (
        some ((0 : Int32), S6))))))))))
set_option maxHeartbeats 4000000 in
set_option maxRecDepth 100000 in
theorem c_X8_lend {l : Launch} {D : va_G} {cy : Nat → ClassId} {cs : List (Nat × Nat)} {ad : Nat → Nat → Nat} {Zp : State → Prop} (hA : AdOk cs ad) (hZ : ZOk cs ad Zp) (N : Nat) (a1 : Int32) (a2 : Int32) (S : HS) (r : Int32) (Z : HS) (h : f_X8_lend cs N a1 a2 S = some (r, Z)) : Ctr Zp l yX8_lend cX8_lend 3 (some .boolean) rm_X8_lend D cy cs ad [.ref (ad 0 0), .int a1, .int a2] S (some (.int r)) Z := by
  unfold f_X8_lend at h
  refine Ctr.of hA hZ RX8 (plainFor_of_name (by decide)) rfl [(0, .ref (ad 0 0)), (1, .int a1), (2, .int a2)] rfl (Nat.le_of_ble_eq_true rfl) (fun p e s m below meth c B => ?_)
  refine g_iload_n B dX8_lend_0 1 rfl rfl ?_
  obtain ⟨r1, S2, e3, h⟩ := ob_e h
  refine g_csi (rest := []) B (c_X8_isFamily hA hZ N _ _ _ _ e3) mf_X8_isFamily km_X8_56 ⟨by decide, by decide⟩ ⟨rfl, rfl⟩ rfl rfl (Nat.le_of_ble_eq_true rfl) ⟨Nat.zero_le _, Nat.zero_le _⟩ dX8_lend_1 ?_
  refine g_if_eq B 34 dX8_lend_4 (by decide) (fun q4 => ?_) (fun q4 => ?_)
  · have h := if_t h q4
    refine g_iconst (v := (0 : Int32)) B dX8_lend_34 (by decide) ?_
    obtain ⟨rfl, rfl⟩ := some_e h
    exact g_zret B (by decide) dX8_lend_35
  · have h := if_f h q4
    refine g_iload_n B dX8_lend_7 2 rfl rfl ?_
    refine g_iconst (v := (1 : Int32)) B dX8_lend_8 (by decide) ?_
    refine g_sipush (v := (9999 : Int32)) B dX8_lend_9 (by decide) ?_
    obtain ⟨r5, S6, e7, h⟩ := ob_e h
    refine g_csi (rest := []) B (c_X8_isWithin hA hZ N _ _ _ _ _ _ e7) mf_X8_isWithin km_X8_63 ⟨by decide, by decide⟩ ⟨rfl, rfl⟩ rfl rfl (Nat.le_of_ble_eq_true rfl) ⟨Nat.zero_le _, Nat.zero_le _⟩ dX8_lend_12 ?_
    refine g_if_eq B 34 dX8_lend_15 (by decide) (fun q8 => ?_) (fun q8 => ?_)
    · have h := if_t h q8
      refine g_iconst (v := (0 : Int32)) B dX8_lend_34 (by decide) ?_
      obtain ⟨rfl, rfl⟩ := some_e h
      exact g_zret B (by decide) dX8_lend_35
    · have h := if_f h q8
      refine g_aload_n B dX8_lend_18 0 rfl rfl ?_
      obtain ⟨m9, h⟩ := ck_e h
      refine gt_X8_0 B m9 kf_X8_11 dX8_lend_19 ?_
      refine g_iload_n B dX8_lend_22 1 rfl rfl ?_
      obtain ⟨m10, h⟩ := ck_e h
      obtain ⟨b11, h⟩ := ck_e h
      refine g_aald (t0 := 4) (a := ad 4 (a1.toNatClampNeg)) B rfl rfl m10 rfl b11 rfl dX8_lend_23 ?_
      obtain ⟨m12, h⟩ := ck_e h
      refine gt_X2_2 B m12 kf_X8_100 dX8_lend_24 ?_
      refine g_iload_n B dX8_lend_27 2 rfl rfl ?_
      refine g_iadd B dX8_lend_28 ?_
      refine g_ldc (v := (99999 : Int32)) B dX8_lend_29 kk_X8_101 ?_
      refine g_icmp_le B 36 dX8_lend_31 (by decide) (fun q13 => ?_) (fun q13 => ?_)
      · have h := if_t h q13
        refine g_aload_n B dX8_lend_36 0 rfl rfl ?_
        refine gt_X8_0 B m9 kf_X8_11 dX8_lend_37 ?_
        refine g_iload_n B dX8_lend_40 1 rfl rfl ?_
        obtain ⟨b14, h⟩ := ck_e h
        refine g_aald (t0 := 4) (a := ad 4 (a1.toNatClampNeg)) B rfl rfl m10 rfl b14 rfl dX8_lend_41 ?_
        refine g_dup B dX8_lend_42 rfl ?_
        refine gt_X2_2 B m12 kf_X8_100 dX8_lend_43 ?_
        refine g_iload_n B dX8_lend_46 2 rfl rfl ?_
        refine g_iadd B dX8_lend_47 ?_
        obtain ⟨S15, e16, h⟩ := lt_e h
        refine pt_X2_2 B m12 kf_X8_100 e16 dX8_lend_48 ?_
        refine g_aload_n B dX8_lend_51 0 rfl rfl ?_
        refine g_iconst (v := (0 : Int32)) B dX8_lend_52 (by decide) ?_
        obtain ⟨S17, e18, h⟩ := lt_e h
        refine pt_X8_7 B m9 kf_X8_71 (by decide) e18 dX8_lend_53 ?_
        refine g_iconst (v := (1 : Int32)) B dX8_lend_56 (by decide) ?_
        obtain ⟨rfl, rfl⟩ := some_e h
        exact g_zret B (by decide) dX8_lend_57
      · have h := if_f h q13
        refine g_iconst (v := (0 : Int32)) B dX8_lend_34 (by decide) ?_
        obtain ⟨rfl, rfl⟩ := some_e h
        exact g_zret B (by decide) dX8_lend_35

def rm_X8_bring : Room := { frames := 1, cells := 0, slots := 0, locals := 20 }
def f_X8_bring (cs : List (Nat × Nat)) (N : Nat) (a1 : Int32) (S : HS) : Option (Int32 × HS) :=
  ob (f_X8_isFamily cs N a1 S) (fun r1 S2 =>
  if r1 = 0 then (
    some ((-1 : Int32), S2))
  else (
    ck (mc cs 0 0) (
    ck (mc cs 1 0) (
    ck (inb a1 4) (
    ck (mc cs 4 (a1.toNatClampNeg)) (
    lt_ ((gi S2 4 (a1.toNatClampNeg) 2)) (fun x9 =>
    ck (inb a1 4) (
    lt_ (ui S2 4 (a1.toNatClampNeg) 2 (0 : Int32)) (fun S12 =>
    lt_ (ui S12 0 0 7 (0 : Int32)) (fun S14 =>
    some (x9, S14)))))))))))
set_option maxHeartbeats 4000000 in
set_option maxRecDepth 100000 in
theorem c_X8_bring {l : Launch} {D : va_G} {cy : Nat → ClassId} {cs : List (Nat × Nat)} {ad : Nat → Nat → Nat} {Zp : State → Prop} (hA : AdOk cs ad) (hZ : ZOk cs ad Zp) (N : Nat) (a1 : Int32) (S : HS) (r : Int32) (Z : HS) (h : f_X8_bring cs N a1 S = some (r, Z)) : Ctr Zp l yX8_bring cX8_bring 3 (some .int) rm_X8_bring D cy cs ad [.ref (ad 0 0), .int a1] S (some (.int r)) Z := by
  unfold f_X8_bring at h
  refine Ctr.of hA hZ RX8 (plainFor_of_name (by decide)) rfl [(0, .ref (ad 0 0)), (1, .int a1)] rfl (Nat.le_of_ble_eq_true rfl) (fun p e s m below meth c B => ?_)
  refine g_iload_n B dX8_bring_0 1 rfl rfl ?_
  obtain ⟨r1, S2, e3, h⟩ := ob_e h
  refine g_csi (rest := []) B (c_X8_isFamily hA hZ N _ _ _ _ e3) mf_X8_isFamily km_X8_56 ⟨by decide, by decide⟩ ⟨rfl, rfl⟩ rfl rfl (Nat.le_of_ble_eq_true rfl) ⟨Nat.zero_le _, Nat.zero_le _⟩ dX8_bring_1 ?_
  refine g_if_ne B 9 dX8_bring_4 (by decide) (fun q4 => ?_) (fun q4 => ?_)
  · have h := if_f h q4
    refine g_aload_n B dX8_bring_9 0 rfl rfl ?_
    obtain ⟨m5, h⟩ := ck_e h
    refine gt_X8_0 B m5 kf_X8_11 dX8_bring_10 ?_
    refine g_iload_n B dX8_bring_13 1 rfl rfl ?_
    obtain ⟨m6, h⟩ := ck_e h
    obtain ⟨b7, h⟩ := ck_e h
    refine g_aald (t0 := 4) (a := ad 4 (a1.toNatClampNeg)) B rfl rfl m6 rfl b7 rfl dX8_bring_14 ?_
    obtain ⟨m8, h⟩ := ck_e h
    refine gt_X2_2 B m8 kf_X8_100 dX8_bring_15 ?_
    obtain ⟨x9, e10, h⟩ := lt_e h
    refine g_topi e10 ?_
    refine g_istore_n (lv' := [(2, .int x9), (0, .ref (ad 0 0)), (1, .int a1)]) B dX8_bring_18 rfl (by decide) rfl ?_
    refine g_aload_n B dX8_bring_19 1 rfl rfl ?_
    refine gt_X8_0 B m5 kf_X8_11 dX8_bring_20 ?_
    refine g_iload_n B dX8_bring_23 2 rfl rfl ?_
    obtain ⟨b11, h⟩ := ck_e h
    refine g_aald (t0 := 4) (a := ad 4 (a1.toNatClampNeg)) B rfl rfl m6 rfl b11 rfl dX8_bring_24 ?_
    refine g_iconst (v := (0 : Int32)) B dX8_bring_25 (by decide) ?_
    obtain ⟨S12, e13, h⟩ := lt_e h
    refine pt_X2_2 B m8 kf_X8_100 e13 dX8_bring_26 ?_
    refine g_aload_n B dX8_bring_29 1 rfl rfl ?_
    refine g_iconst (v := (0 : Int32)) B dX8_bring_30 (by decide) ?_
    obtain ⟨S14, e15, h⟩ := lt_e h
    refine pt_X8_7 B m5 kf_X8_71 (by decide) e15 dX8_bring_31 ?_
    refine g_iload_n B dX8_bring_34 0 rfl rfl ?_
    obtain ⟨rfl, rfl⟩ := some_e h
    exact g_iret B dX8_bring_35
  · have h := if_t h q4
    refine g_iconst (v := (-1 : Int32)) B dX8_bring_7 (by decide) ?_
    obtain ⟨rfl, rfl⟩ := some_e h
    exact g_iret B dX8_bring_8

def rm_X8_drop : Room := { frames := 1, cells := 0, slots := 0, locals := 21 }
def f_X8_drop (cs : List (Nat × Nat)) (N : Nat) (a1 : Int32) (S : HS) : Option (Int32 × HS) :=
  ck (mc cs 0 0) (
  ob (f_X8_isOrder cs N a1 S) (fun r2 S3 =>
  if r2 = 0 then (
    some ((0 : Int32), S3))
  else (
    ck (mc cs 3 0) (
    ck (inb a1 7) (
    ck (mc cs 7 (a1.toNatClampNeg)) (
    if (gi S3 7 (a1.toNatClampNeg) 8) = 0 then (
      ck (inb a1 7) (
      lt_ (ui S3 7 (a1.toNatClampNeg) 8 (2 : Int32)) (fun S11 =>
      lt_ (ui S11 0 0 7 (0 : Int32)) (fun S13 =>
      some ((1 : Int32), S13)))))
    else (
      some ((0 : Int32), S3))))))))
set_option maxHeartbeats 4000000 in
set_option maxRecDepth 100000 in
theorem c_X8_drop {l : Launch} {D : va_G} {cy : Nat → ClassId} {cs : List (Nat × Nat)} {ad : Nat → Nat → Nat} {Zp : State → Prop} (hA : AdOk cs ad) (hZ : ZOk cs ad Zp) (N : Nat) (a1 : Int32) (S : HS) (r : Int32) (Z : HS) (h : f_X8_drop cs N a1 S = some (r, Z)) : Ctr Zp l yX8_drop cX8_drop 2 (some .boolean) rm_X8_drop D cy cs ad [.ref (ad 0 0), .int a1] S (some (.int r)) Z := by
  unfold f_X8_drop at h
  refine Ctr.of hA hZ RX8 (plainFor_of_name (by decide)) rfl [(0, .ref (ad 0 0)), (1, .int a1)] rfl (Nat.le_of_ble_eq_true rfl) (fun p e s m below meth c B => ?_)
  refine g_aload_n B dX8_drop_0 0 rfl rfl ?_
  refine g_iload_n B dX8_drop_1 1 rfl rfl ?_
  obtain ⟨m1, h⟩ := ck_e h
  obtain ⟨r2, S3, e4, h⟩ := ob_e h
  refine g_cvi (rest := []) B (c_X8_isOrder hA hZ N _ _ _ _ e4) mf_X8_isOrder km_X8_114 ⟨by decide, by decide⟩ ⟨rfl, rfl⟩ m1 rfl rfl rfl rfl (Nat.le_of_ble_eq_true rfl) ⟨Nat.zero_le _, Nat.zero_le _⟩ dX8_drop_2 ?_
  refine g_if_eq B 20 dX8_drop_5 (by decide) (fun q5 => ?_) (fun q5 => ?_)
  · have h := if_t h q5
    refine g_iconst (v := (0 : Int32)) B dX8_drop_20 (by decide) ?_
    obtain ⟨rfl, rfl⟩ := some_e h
    exact g_zret B (by decide) dX8_drop_21
  · have h := if_f h q5
    refine g_aload_n B dX8_drop_8 0 rfl rfl ?_
    refine gt_X8_2 B m1 kf_X8_23 dX8_drop_9 ?_
    refine g_iload_n B dX8_drop_12 1 rfl rfl ?_
    obtain ⟨m6, h⟩ := ck_e h
    obtain ⟨b7, h⟩ := ck_e h
    refine g_aald (t0 := 6) (a := ad 7 (a1.toNatClampNeg)) B rfl rfl m6 rfl b7 rfl dX8_drop_13 ?_
    obtain ⟨m8, h⟩ := ck_e h
    refine gt_X6_8 B m8 kf_X8_90 dX8_drop_14 ?_
    refine g_if_eq B 22 dX8_drop_17 (by decide) (fun q9 => ?_) (fun q9 => ?_)
    · have h := if_t h q9
      refine g_aload_n B dX8_drop_22 0 rfl rfl ?_
      refine gt_X8_2 B m1 kf_X8_23 dX8_drop_23 ?_
      refine g_iload_n B dX8_drop_26 1 rfl rfl ?_
      obtain ⟨b10, h⟩ := ck_e h
      refine g_aald (t0 := 6) (a := ad 7 (a1.toNatClampNeg)) B rfl rfl m6 rfl b10 rfl dX8_drop_27 ?_
      refine g_iconst (v := (2 : Int32)) B dX8_drop_28 (by decide) ?_
      obtain ⟨S11, e12, h⟩ := lt_e h
      refine pt_X6_8 B m8 kf_X8_90 e12 dX8_drop_29 ?_
      refine g_aload_n B dX8_drop_32 0 rfl rfl ?_
      refine g_iconst (v := (0 : Int32)) B dX8_drop_33 (by decide) ?_
      obtain ⟨S13, e14, h⟩ := lt_e h
      refine pt_X8_7 B m1 kf_X8_71 (by decide) e14 dX8_drop_34 ?_
      refine g_iconst (v := (1 : Int32)) B dX8_drop_37 (by decide) ?_
      obtain ⟨rfl, rfl⟩ := some_e h
      exact g_zret B (by decide) dX8_drop_38
    · have h := if_f h q9
      refine g_iconst (v := (0 : Int32)) B dX8_drop_20 (by decide) ?_
      obtain ⟨rfl, rfl⟩ := some_e h
      exact g_zret B (by decide) dX8_drop_21

def rm_X8_end : Room := { frames := 1, cells := 0, slots := 0, locals := 22 }
def f_X8_end (cs : List (Nat × Nat)) (N : Nat) (a1 : Int32) (S : HS) : Option (Int32 × HS) :=
  ck (mc cs 0 0) (
  ck (mc cs 8 0) (
  ck (mc cs 9 0) (
  ob (f_X8_isWithin cs N a1 (0 : Int32) (gi S 9 0 0) S) (fun r4 S5 =>
  if r4 = 0 then (
    some ((0 : Int32), S5))
  else (
    lt_ (ui S5 9 0 0 a1) (fun S8 =>
    some ((1 : Int32), S8)))))))
set_option maxHeartbeats 4000000 in
set_option maxRecDepth 100000 in
theorem c_X8_end {l : Launch} {D : va_G} {cy : Nat → ClassId} {cs : List (Nat × Nat)} {ad : Nat → Nat → Nat} {Zp : State → Prop} (hA : AdOk cs ad) (hZ : ZOk cs ad Zp) (N : Nat) (a1 : Int32) (S : HS) (r : Int32) (Z : HS) (h : f_X8_end cs N a1 S = some (r, Z)) : Ctr Zp l yX8_end cX8_end 2 (some .boolean) rm_X8_end D cy cs ad [.ref (ad 0 0), .int a1] S (some (.int r)) Z := by
  unfold f_X8_end at h
  refine Ctr.of hA hZ RX8 (plainFor_of_name (by decide)) rfl [(0, .ref (ad 0 0)), (1, .int a1)] rfl (Nat.le_of_ble_eq_true rfl) (fun p e s m below meth c B => ?_)
  refine g_iload_n B dX8_end_0 1 rfl rfl ?_
  refine g_iconst (v := (0 : Int32)) B dX8_end_1 (by decide) ?_
  refine g_aload_n B dX8_end_2 0 rfl rfl ?_
  obtain ⟨m1, h⟩ := ck_e h
  refine gt_X8_3 B m1 kf_X8_30 dX8_end_3 ?_
  obtain ⟨m2, h⟩ := ck_e h
  refine gt_X1_0 B m2 kf_X8_117 dX8_end_6 ?_
  obtain ⟨m3, h⟩ := ck_e h
  refine gt_X7_0 B m3 kf_X8_121 dX8_end_9 ?_
  obtain ⟨r4, S5, e6, h⟩ := ob_e h
  refine g_csi (rest := []) B (c_X8_isWithin hA hZ N _ _ _ _ _ _ e6) mf_X8_isWithin km_X8_63 ⟨by decide, by decide⟩ ⟨rfl, rfl⟩ rfl rfl (Nat.le_of_ble_eq_true rfl) ⟨Nat.zero_le _, Nat.zero_le _⟩ dX8_end_12 ?_
  refine g_if_ne B 20 dX8_end_15 (by decide) (fun q7 => ?_) (fun q7 => ?_)
  · have h := if_f h q7
    refine g_aload_n B dX8_end_20 0 rfl rfl ?_
    refine gt_X8_3 B m1 kf_X8_30 dX8_end_21 ?_
    refine gt_X1_0 B m2 kf_X8_117 dX8_end_24 ?_
    refine g_iload_n B dX8_end_27 1 rfl rfl ?_
    obtain ⟨S8, e9, h⟩ := lt_e h
    refine pt_X7_0 B m3 kf_X8_121 e9 dX8_end_28 ?_
    refine g_iconst (v := (1 : Int32)) B dX8_end_31 (by decide) ?_
    obtain ⟨rfl, rfl⟩ := some_e h
    exact g_zret B (by decide) dX8_end_32
  · have h := if_t h q7
    refine g_iconst (v := (0 : Int32)) B dX8_end_18 (by decide) ?_
    obtain ⟨rfl, rfl⟩ := some_e h
    exact g_zret B (by decide) dX8_end_19

def rm_X8_may : Room := { frames := 1, cells := 0, slots := 0, locals := 23 }
def f_X8_may (cs : List (Nat × Nat)) (N : Nat) (a1 : Int32) (a2 : Int32) (a3 : Int32) (S : HS) : Option (Int32 × HS) :=
  ob (f_X8_isFamily cs N a1 S) (fun r1 S2 =>
  if r1 = 0 then (
    some ((-1 : Int32), S2))
  else (
    ob (f_X8_isPattern cs N a2 S2) (fun r5 S6 =>
    if r5 = 0 then (
      some ((-1 : Int32), S6))
    else (
      ob (f_X8_isWithin cs N a3 (0 : Int32) (51 : Int32) S6) (fun r9 S10 =>
      if r9 = 0 then (
        some ((-1 : Int32), S10))
      else (
        ck (mc cs 0 0) (
        ck (mc cs 20 ((gi S10 0 0 5).toNatClampNeg)) (
        ob (f_X5_allow cs N ((gi S10 0 0 5).toNatClampNeg) a1 a2 a3 S10) (fun r15 S16 =>
        if r15 = 0 then (
          some ((0 : Int32), S16))
        else (
          some ((1 : Int32), S16)))))))))))
set_option maxHeartbeats 4000000 in
set_option maxRecDepth 100000 in
theorem c_X8_may {l : Launch} {D : va_G} {cy : Nat → ClassId} {cs : List (Nat × Nat)} {ad : Nat → Nat → Nat} {Zp : State → Prop} (hA : AdOk cs ad) (hZ : ZOk cs ad Zp) (N : Nat) (a1 : Int32) (a2 : Int32) (a3 : Int32) (S : HS) (r : Int32) (Z : HS) (h : f_X8_may cs N a1 a2 a3 S = some (r, Z)) : Ctr Zp l yX8_may cX8_may 4 (some .int) rm_X8_may D cy cs ad [.ref (ad 0 0), .int a1, .int a2, .int a3] S (some (.int r)) Z := by
  unfold f_X8_may at h
  refine Ctr.of hA hZ RX8 (plainFor_of_name (by decide)) rfl [(0, .ref (ad 0 0)), (1, .int a1), (2, .int a2), (3, .int a3)] rfl (Nat.le_of_ble_eq_true rfl) (fun p e s m below meth c B => ?_)
  refine g_iload_n B dX8_may_0 1 rfl rfl ?_
  obtain ⟨r1, S2, e3, h⟩ := ob_e h
  refine g_csi (rest := []) B (c_X8_isFamily hA hZ N _ _ _ _ e3) mf_X8_isFamily km_X8_56 ⟨by decide, by decide⟩ ⟨rfl, rfl⟩ rfl rfl (Nat.le_of_ble_eq_true rfl) ⟨Nat.zero_le _, Nat.zero_le _⟩ dX8_may_1 ?_
  refine g_if_eq B 24 dX8_may_4 (by decide) (fun q4 => ?_) (fun q4 => ?_)
  · have h := if_t h q4
    refine g_iconst (v := (-1 : Int32)) B dX8_may_24 (by decide) ?_
    obtain ⟨rfl, rfl⟩ := some_e h
    exact g_iret B dX8_may_25
  · have h := if_f h q4
    refine g_iload_n B dX8_may_7 2 rfl rfl ?_
    obtain ⟨r5, S6, e7, h⟩ := ob_e h
    refine g_csi (rest := []) B (c_X8_isPattern hA hZ N _ _ _ _ e7) mf_X8_isPattern km_X8_75 ⟨by decide, by decide⟩ ⟨rfl, rfl⟩ rfl rfl (Nat.le_of_ble_eq_true rfl) ⟨Nat.zero_le _, Nat.zero_le _⟩ dX8_may_8 ?_
    refine g_if_eq B 24 dX8_may_11 (by decide) (fun q8 => ?_) (fun q8 => ?_)
    · have h := if_t h q8
      refine g_iconst (v := (-1 : Int32)) B dX8_may_24 (by decide) ?_
      obtain ⟨rfl, rfl⟩ := some_e h
      exact g_iret B dX8_may_25
    · have h := if_f h q8
      refine g_iload_n B dX8_may_14 3 rfl rfl ?_
      refine g_iconst (v := (0 : Int32)) B dX8_may_15 (by decide) ?_
      refine g_bipush (v := (51 : Int32)) B dX8_may_16 (by decide) ?_
      obtain ⟨r9, S10, e11, h⟩ := ob_e h
      refine g_csi (rest := []) B (c_X8_isWithin hA hZ N _ _ _ _ _ _ e11) mf_X8_isWithin km_X8_63 ⟨by decide, by decide⟩ ⟨rfl, rfl⟩ rfl rfl (Nat.le_of_ble_eq_true rfl) ⟨Nat.zero_le _, Nat.zero_le _⟩ dX8_may_18 ?_
      refine g_if_ne B 26 dX8_may_21 (by decide) (fun q12 => ?_) (fun q12 => ?_)
      · have h := if_f h q12
        refine g_aload_n B dX8_may_26 0 rfl rfl ?_
        obtain ⟨m13, h⟩ := ck_e h
        refine gt_X8_5 B m13 kf_X8_44 dX8_may_27 ?_
        refine g_iload_n B dX8_may_30 1 rfl rfl ?_
        refine g_iload_n B dX8_may_31 2 rfl rfl ?_
        refine g_iload_n B dX8_may_32 3 rfl rfl ?_
        obtain ⟨m14, h⟩ := ck_e h
        obtain ⟨r15, S16, e17, h⟩ := ob_e h
        refine g_cvi (rest := []) B (c_X5_allow hA hZ N _ _ _ _ _ _ _ e17) mf_X5_allow km_X8_142 ⟨by decide, by decide⟩ ⟨rfl, rfl⟩ m14 rfl rfl rfl rfl (Nat.le_of_ble_eq_true rfl) ⟨Nat.zero_le _, Nat.zero_le _⟩ dX8_may_33 ?_
        refine g_if_eq B 43 dX8_may_36 (by decide) (fun q18 => ?_) (fun q18 => ?_)
        · have h := if_t h q18
          refine g_iconst (v := (0 : Int32)) B dX8_may_43 (by decide) ?_
          obtain ⟨rfl, rfl⟩ := some_e h
          exact g_iret B dX8_may_44
        · have h := if_f h q18
          refine g_iconst (v := (1 : Int32)) B dX8_may_39 (by decide) ?_
          refine g_goto B 44 dX8_may_40 (by decide) ?_
          obtain ⟨rfl, rfl⟩ := some_e h
          exact g_iret B dX8_may_44
      · have h := if_t h q12
        refine g_iconst (v := (-1 : Int32)) B dX8_may_24 (by decide) ?_
        obtain ⟨rfl, rfl⟩ := some_e h
        exact g_iret B dX8_may_25

def rm_X8_look : Room := { frames := 1, cells := 0, slots := 0, locals := 23 }
def f_X8_look (cs : List (Nat × Nat)) (N : Nat) (a1 : Int32) (S : HS) : Option (Int32 × HS) :=
  ob (f_X8_isFamily cs N (a1 - (10 : Int32)) S) (fun r1 S2 =>
  if r1 = 0 then (
    ob (f_X8_isFamily cs N (a1 - (20 : Int32)) S2) (fun r5 S6 =>
    if r5 = 0 then (
      if a1 = (0 : Int32) then (
        ck (mc cs 0 0) (
        some ((gi S6 0 0 8), S6)))
      else (
      if a1 = (1 : Int32) then (
        ck (mc cs 0 0) (
        some ((gi S6 0 0 9), S6)))
      else (
      if a1 = (2 : Int32) then (
        ck (mc cs 0 0) (
        ob (f_X8_countOrders cs N (0 : Int32) S6) (fun r15 S16 =>
        some (r15, S16))))
      else (
      if a1 = (3 : Int32) then (
        ck (mc cs 0 0) (
        ob (f_X8_countOrders cs N (1 : Int32) S6) (fun r20 S21 =>
        some (r20, S21))))
      else (
      if a1 = (4 : Int32) then (
        ck (mc cs 0 0) (
        ob (f_X8_countOrders cs N (3 : Int32) S6) (fun r25 S26 =>
        some (r25, S26))))
      else (
      if a1 = (5 : Int32) then (
        ck (mc cs 0 0) (
        some ((gi S6 0 0 10), S6)))
      else (
      some ((-1 : Int32), S6))))))))
    else (
      ck (mc cs 0 0) (
      ck (mc cs 1 0) (
      ck (inb (a1 - (20 : Int32)) 4) (
      ck (mc cs 4 ((a1 - (20 : Int32)).toNatClampNeg)) (
      some ((gi S6 4 ((a1 - (20 : Int32)).toNatClampNeg) 3), S6))))))))
  else (
    ck (mc cs 0 0) (
    ck (mc cs 1 0) (
    ck (inb (a1 - (10 : Int32)) 4) (
    ck (mc cs 4 ((a1 - (10 : Int32)).toNatClampNeg)) (
    some ((gi S2 4 ((a1 - (10 : Int32)).toNatClampNeg) 2), S2)))))))
set_option maxHeartbeats 4000000 in
set_option maxRecDepth 100000 in
theorem c_X8_look {l : Launch} {D : va_G} {cy : Nat → ClassId} {cs : List (Nat × Nat)} {ad : Nat → Nat → Nat} {Zp : State → Prop} (hA : AdOk cs ad) (hZ : ZOk cs ad Zp) (N : Nat) (a1 : Int32) (S : HS) (r : Int32) (Z : HS) (h : f_X8_look cs N a1 S = some (r, Z)) : Ctr Zp l yX8_look cX8_look 2 (some .int) rm_X8_look D cy cs ad [.ref (ad 0 0), .int a1] S (some (.int r)) Z := by
  unfold f_X8_look at h
  refine Ctr.of hA hZ RX8 (plainFor_of_name (by decide)) rfl [(0, .ref (ad 0 0)), (1, .int a1)] rfl (Nat.le_of_ble_eq_true rfl) (fun p e s m below meth c B => ?_)
  refine g_iload_n B dX8_look_0 1 rfl rfl ?_
  refine g_bipush (v := (10 : Int32)) B dX8_look_1 (by decide) ?_
  refine g_isub B dX8_look_3 ?_
  obtain ⟨r1, S2, e3, h⟩ := ob_e h
  refine g_csi (rest := []) B (c_X8_isFamily hA hZ N _ _ _ _ e3) mf_X8_isFamily km_X8_56 ⟨by decide, by decide⟩ ⟨rfl, rfl⟩ rfl rfl (Nat.le_of_ble_eq_true rfl) ⟨Nat.zero_le _, Nat.zero_le _⟩ dX8_look_4 ?_
  refine g_if_eq B 23 dX8_look_7 (by decide) (fun q4 => ?_) (fun q4 => ?_)
  · have h := if_t h q4
    refine g_iload_n B dX8_look_23 1 rfl rfl ?_
    refine g_bipush (v := (20 : Int32)) B dX8_look_24 (by decide) ?_
    refine g_isub B dX8_look_26 ?_
    obtain ⟨r5, S6, e7, h⟩ := ob_e h
    refine g_csi (rest := []) B (c_X8_isFamily hA hZ N _ _ _ _ e7) mf_X8_isFamily km_X8_56 ⟨by decide, by decide⟩ ⟨rfl, rfl⟩ rfl rfl (Nat.le_of_ble_eq_true rfl) ⟨Nat.zero_le _, Nat.zero_le _⟩ dX8_look_27 ?_
    refine g_if_eq B 46 dX8_look_30 (by decide) (fun q8 => ?_) (fun q8 => ?_)
    · have h := if_t h q8
      refine g_iload_n B dX8_look_46 1 rfl rfl ?_
      by_cases q9 : a1 = (0 : Int32)
      · have h := if_t h q9
        refine g_tableIn (off := 37) B 84 dX8_look_47 (by rw [q9]; decide) (by rw [q9]; decide) (by rw [q9]; rfl) (by decide) ?_
        refine g_aload_n B dX8_look_84 0 rfl rfl ?_
        obtain ⟨m10, h⟩ := ck_e h
        refine gt_X8_8 B m10 kf_X8_148 dX8_look_85 ?_
        obtain ⟨rfl, rfl⟩ := some_e h
        exact g_iret B dX8_look_88
      have h := if_f h q9
      by_cases q11 : a1 = (1 : Int32)
      · have h := if_t h q11
        refine g_tableIn (off := 42) B 89 dX8_look_47 (by rw [q11]; decide) (by rw [q11]; decide) (by rw [q11]; rfl) (by decide) ?_
        refine g_aload_n B dX8_look_89 0 rfl rfl ?_
        obtain ⟨m12, h⟩ := ck_e h
        refine gt_X8_9 B m12 kf_X8_87 dX8_look_90 ?_
        obtain ⟨rfl, rfl⟩ := some_e h
        exact g_iret B dX8_look_93
      have h := if_f h q11
      by_cases q13 : a1 = (2 : Int32)
      · have h := if_t h q13
        refine g_tableIn (off := 47) B 94 dX8_look_47 (by rw [q13]; decide) (by rw [q13]; decide) (by rw [q13]; rfl) (by decide) ?_
        refine g_aload_n B dX8_look_94 0 rfl rfl ?_
        refine g_iconst (v := (0 : Int32)) B dX8_look_95 (by decide) ?_
        obtain ⟨m14, h⟩ := ck_e h
        obtain ⟨r15, S16, e17, h⟩ := ob_e h
        refine g_cvi (rest := []) B (c_X8_countOrders hA hZ N _ _ _ _ e17) mf_X8_countOrders km_X8_151 ⟨by decide, by decide⟩ ⟨rfl, rfl⟩ m14 rfl rfl rfl rfl (Nat.le_of_ble_eq_true rfl) ⟨Nat.zero_le _, Nat.zero_le _⟩ dX8_look_96 ?_
        obtain ⟨rfl, rfl⟩ := some_e h
        exact g_iret B dX8_look_99
      have h := if_f h q13
      by_cases q18 : a1 = (3 : Int32)
      · have h := if_t h q18
        refine g_tableIn (off := 53) B 100 dX8_look_47 (by rw [q18]; decide) (by rw [q18]; decide) (by rw [q18]; rfl) (by decide) ?_
        refine g_aload_n B dX8_look_100 0 rfl rfl ?_
        refine g_iconst (v := (1 : Int32)) B dX8_look_101 (by decide) ?_
        obtain ⟨m19, h⟩ := ck_e h
        obtain ⟨r20, S21, e22, h⟩ := ob_e h
        refine g_cvi (rest := []) B (c_X8_countOrders hA hZ N _ _ _ _ e22) mf_X8_countOrders km_X8_151 ⟨by decide, by decide⟩ ⟨rfl, rfl⟩ m19 rfl rfl rfl rfl (Nat.le_of_ble_eq_true rfl) ⟨Nat.zero_le _, Nat.zero_le _⟩ dX8_look_102 ?_
        obtain ⟨rfl, rfl⟩ := some_e h
        exact g_iret B dX8_look_105
      have h := if_f h q18
      by_cases q23 : a1 = (4 : Int32)
      · have h := if_t h q23
        refine g_tableIn (off := 59) B 106 dX8_look_47 (by rw [q23]; decide) (by rw [q23]; decide) (by rw [q23]; rfl) (by decide) ?_
        refine g_aload_n B dX8_look_106 0 rfl rfl ?_
        refine g_iconst (v := (3 : Int32)) B dX8_look_107 (by decide) ?_
        obtain ⟨m24, h⟩ := ck_e h
        obtain ⟨r25, S26, e27, h⟩ := ob_e h
        refine g_cvi (rest := []) B (c_X8_countOrders hA hZ N _ _ _ _ e27) mf_X8_countOrders km_X8_151 ⟨by decide, by decide⟩ ⟨rfl, rfl⟩ m24 rfl rfl rfl rfl (Nat.le_of_ble_eq_true rfl) ⟨Nat.zero_le _, Nat.zero_le _⟩ dX8_look_108 ?_
        obtain ⟨rfl, rfl⟩ := some_e h
        exact g_iret B dX8_look_111
      have h := if_f h q23
      by_cases q28 : a1 = (5 : Int32)
      · have h := if_t h q28
        refine g_tableIn (off := 65) B 112 dX8_look_47 (by rw [q28]; decide) (by rw [q28]; decide) (by rw [q28]; rfl) (by decide) ?_
        refine g_aload_n B dX8_look_112 0 rfl rfl ?_
        obtain ⟨m29, h⟩ := ck_e h
        refine gt_X8_10 B m29 kf_X8_155 dX8_look_113 ?_
        obtain ⟨rfl, rfl⟩ := some_e h
        exact g_iret B dX8_look_116
      have h := if_f h q28
      refine g_tableOut B 117 dX8_look_47 (by have t0 := ti_ne (0 : Int32) (0) (by decide) q9; have t1 := ti_ne (1 : Int32) (1) (by decide) q11; have t2 := ti_ne (2 : Int32) (2) (by decide) q13; have t3 := ti_ne (3 : Int32) (3) (by decide) q18; have t4 := ti_ne (4 : Int32) (4) (by decide) q23; have t5 := ti_ne (5 : Int32) (5) (by decide) q28; omega) (by decide) ?_
      refine g_iconst (v := (-1 : Int32)) B dX8_look_117 (by decide) ?_
      obtain ⟨rfl, rfl⟩ := some_e h
      exact g_iret B dX8_look_118
    · have h := if_f h q8
      refine g_aload_n B dX8_look_33 0 rfl rfl ?_
      obtain ⟨m30, h⟩ := ck_e h
      refine gt_X8_0 B m30 kf_X8_11 dX8_look_34 ?_
      refine g_iload_n B dX8_look_37 1 rfl rfl ?_
      refine g_bipush (v := (20 : Int32)) B dX8_look_38 (by decide) ?_
      refine g_isub B dX8_look_40 ?_
      obtain ⟨m31, h⟩ := ck_e h
      obtain ⟨b32, h⟩ := ck_e h
      refine g_aald (t0 := 4) (a := ad 4 ((a1 - (20 : Int32)).toNatClampNeg)) B rfl rfl m31 rfl b32 rfl dX8_look_41 ?_
      obtain ⟨m33, h⟩ := ck_e h
      refine gt_X2_3 B m33 kf_X8_145 dX8_look_42 ?_
      obtain ⟨rfl, rfl⟩ := some_e h
      exact g_iret B dX8_look_45
  · have h := if_f h q4
    refine g_aload_n B dX8_look_10 0 rfl rfl ?_
    obtain ⟨m34, h⟩ := ck_e h
    refine gt_X8_0 B m34 kf_X8_11 dX8_look_11 ?_
    refine g_iload_n B dX8_look_14 1 rfl rfl ?_
    refine g_bipush (v := (10 : Int32)) B dX8_look_15 (by decide) ?_
    refine g_isub B dX8_look_17 ?_
    obtain ⟨m35, h⟩ := ck_e h
    obtain ⟨b36, h⟩ := ck_e h
    refine g_aald (t0 := 4) (a := ad 4 ((a1 - (10 : Int32)).toNatClampNeg)) B rfl rfl m35 rfl b36 rfl dX8_look_18 ?_
    obtain ⟨m37, h⟩ := ck_e h
    refine gt_X2_2 B m37 kf_X8_100 dX8_look_19 ?_
    obtain ⟨rfl, rfl⟩ := some_e h
    exact g_iret B dX8_look_22

def rm_X8_of : Room := { frames := 1, cells := 0, slots := 0, locals := 21 }
def f_X8_of (cs : List (Nat × Nat)) (N : Nat) (a1 : Int32) (a2 : Int32) (S : HS) : Option (Int32 × HS) :=
  ck (mc cs 0 0) (
  ob (f_X8_isOrder cs N a1 S) (fun r2 S3 =>
  if r2 = 0 then (
    some ((-1 : Int32), S3))
  else (
    ck (mc cs 3 0) (
    ck (inb a1 7) (
    if a2 = (0 : Int32) then (
      ck (mc cs 7 (a1.toNatClampNeg)) (
      some ((gi S3 7 (a1.toNatClampNeg) 1), S3)))
    else (
    if a2 = (1 : Int32) then (
      ck (mc cs 7 (a1.toNatClampNeg)) (
      some ((gi S3 7 (a1.toNatClampNeg) 2), S3)))
    else (
    if a2 = (2 : Int32) then (
      ck (mc cs 7 (a1.toNatClampNeg)) (
      some ((gi S3 7 (a1.toNatClampNeg) 3), S3)))
    else (
    if a2 = (3 : Int32) then (
      ck (mc cs 7 (a1.toNatClampNeg)) (
      some ((gi S3 7 (a1.toNatClampNeg) 4), S3)))
    else (
    if a2 = (4 : Int32) then (
      ck (mc cs 7 (a1.toNatClampNeg)) (
      some ((gi S3 7 (a1.toNatClampNeg) 5), S3)))
    else (
    if a2 = (5 : Int32) then (
      ck (mc cs 7 (a1.toNatClampNeg)) (
      some ((gi S3 7 (a1.toNatClampNeg) 6), S3)))
    else (
    if a2 = (6 : Int32) then (
      ck (mc cs 7 (a1.toNatClampNeg)) (
      some ((gi S3 7 (a1.toNatClampNeg) 7), S3)))
    else (
    if a2 = (7 : Int32) then (
      ck (mc cs 7 (a1.toNatClampNeg)) (
      some ((gi S3 7 (a1.toNatClampNeg) 8), S3)))
    else (
    if a2 = (8 : Int32) then (
      ck (mc cs 7 (a1.toNatClampNeg)) (
      some ((gi S3 7 (a1.toNatClampNeg) 9), S3)))
    else (
    if a2 = (9 : Int32) then (
      ck (mc cs 7 (a1.toNatClampNeg)) (
      some ((gi S3 7 (a1.toNatClampNeg) 10), S3)))
    else (
    some ((-1 : Int32), S3))))))))))))))))
set_option maxHeartbeats 4000000 in
set_option maxRecDepth 100000 in
theorem c_X8_of {l : Launch} {D : va_G} {cy : Nat → ClassId} {cs : List (Nat × Nat)} {ad : Nat → Nat → Nat} {Zp : State → Prop} (hA : AdOk cs ad) (hZ : ZOk cs ad Zp) (N : Nat) (a1 : Int32) (a2 : Int32) (S : HS) (r : Int32) (Z : HS) (h : f_X8_of cs N a1 a2 S = some (r, Z)) : Ctr Zp l yX8_of cX8_of 4 (some .int) rm_X8_of D cy cs ad [.ref (ad 0 0), .int a1, .int a2] S (some (.int r)) Z := by
  unfold f_X8_of at h
  refine Ctr.of hA hZ RX8 (plainFor_of_name (by decide)) rfl [(0, .ref (ad 0 0)), (1, .int a1), (2, .int a2)] rfl (Nat.le_of_ble_eq_true rfl) (fun p e s m below meth c B => ?_)
  refine g_aload_n B dX8_of_0 0 rfl rfl ?_
  refine g_iload_n B dX8_of_1 1 rfl rfl ?_
  obtain ⟨m1, h⟩ := ck_e h
  obtain ⟨r2, S3, e4, h⟩ := ob_e h
  refine g_cvi (rest := []) B (c_X8_isOrder hA hZ N _ _ _ _ e4) mf_X8_isOrder km_X8_114 ⟨by decide, by decide⟩ ⟨rfl, rfl⟩ m1 rfl rfl rfl rfl (Nat.le_of_ble_eq_true rfl) ⟨Nat.zero_le _, Nat.zero_le _⟩ dX8_of_2 ?_
  refine g_if_ne B 10 dX8_of_5 (by decide) (fun q5 => ?_) (fun q5 => ?_)
  · have h := if_f h q5
    refine g_aload_n B dX8_of_10 0 rfl rfl ?_
    refine gt_X8_2 B m1 kf_X8_23 dX8_of_11 ?_
    refine g_iload_n B dX8_of_14 1 rfl rfl ?_
    obtain ⟨m6, h⟩ := ck_e h
    obtain ⟨b7, h⟩ := ck_e h
    refine g_aald (t0 := 6) (a := ad 7 (a1.toNatClampNeg)) B rfl rfl m6 rfl b7 rfl dX8_of_15 ?_
    refine g_astore_n (lv' := [(3, .ref (ad 7 (a1.toNatClampNeg))), (0, .ref (ad 0 0)), (1, .int a1), (2, .int a2)]) B dX8_of_16 rfl (by decide) rfl ?_
    refine g_iload_n B dX8_of_17 3 rfl rfl ?_
    by_cases q8 : a2 = (0 : Int32)
    · have h := if_t h q8
      refine g_tableIn (off := 54) B 72 dX8_of_18 (by rw [q8]; decide) (by rw [q8]; decide) (by rw [q8]; rfl) (by decide) ?_
      refine g_aload_n B dX8_of_72 0 rfl rfl ?_
      obtain ⟨m9, h⟩ := ck_e h
      refine gt_X6_1 B m9 kf_X8_93 dX8_of_73 ?_
      obtain ⟨rfl, rfl⟩ := some_e h
      exact g_iret B dX8_of_76
    have h := if_f h q8
    by_cases q10 : a2 = (1 : Int32)
    · have h := if_t h q10
      refine g_tableIn (off := 59) B 77 dX8_of_18 (by rw [q10]; decide) (by rw [q10]; decide) (by rw [q10]; rfl) (by decide) ?_
      refine g_aload_n B dX8_of_77 0 rfl rfl ?_
      obtain ⟨m11, h⟩ := ck_e h
      refine gt_X6_2 B m11 kf_X8_102 dX8_of_78 ?_
      obtain ⟨rfl, rfl⟩ := some_e h
      exact g_iret B dX8_of_81
    have h := if_f h q10
    by_cases q12 : a2 = (2 : Int32)
    · have h := if_t h q12
      refine g_tableIn (off := 64) B 82 dX8_of_18 (by rw [q12]; decide) (by rw [q12]; decide) (by rw [q12]; rfl) (by decide) ?_
      refine g_aload_n B dX8_of_82 0 rfl rfl ?_
      obtain ⟨m13, h⟩ := ck_e h
      refine gt_X6_3 B m13 kf_X8_105 dX8_of_83 ?_
      obtain ⟨rfl, rfl⟩ := some_e h
      exact g_iret B dX8_of_86
    have h := if_f h q12
    by_cases q14 : a2 = (3 : Int32)
    · have h := if_t h q14
      refine g_tableIn (off := 69) B 87 dX8_of_18 (by rw [q14]; decide) (by rw [q14]; decide) (by rw [q14]; rfl) (by decide) ?_
      refine g_aload_n B dX8_of_87 0 rfl rfl ?_
      obtain ⟨m15, h⟩ := ck_e h
      refine gt_X6_4 B m15 kf_X8_108 dX8_of_88 ?_
      obtain ⟨rfl, rfl⟩ := some_e h
      exact g_iret B dX8_of_91
    have h := if_f h q14
    by_cases q16 : a2 = (4 : Int32)
    · have h := if_t h q16
      refine g_tableIn (off := 74) B 92 dX8_of_18 (by rw [q16]; decide) (by rw [q16]; decide) (by rw [q16]; rfl) (by decide) ?_
      refine g_aload_n B dX8_of_92 0 rfl rfl ?_
      obtain ⟨m17, h⟩ := ck_e h
      refine gt_X6_5 B m17 kf_X8_158 dX8_of_93 ?_
      obtain ⟨rfl, rfl⟩ := some_e h
      exact g_iret B dX8_of_96
    have h := if_f h q16
    by_cases q18 : a2 = (5 : Int32)
    · have h := if_t h q18
      refine g_tableIn (off := 79) B 97 dX8_of_18 (by rw [q18]; decide) (by rw [q18]; decide) (by rw [q18]; rfl) (by decide) ?_
      refine g_aload_n B dX8_of_97 0 rfl rfl ?_
      obtain ⟨m19, h⟩ := ck_e h
      refine gt_X6_6 B m19 kf_X8_161 dX8_of_98 ?_
      obtain ⟨rfl, rfl⟩ := some_e h
      exact g_iret B dX8_of_101
    have h := if_f h q18
    by_cases q20 : a2 = (6 : Int32)
    · have h := if_t h q20
      refine g_tableIn (off := 84) B 102 dX8_of_18 (by rw [q20]; decide) (by rw [q20]; decide) (by rw [q20]; rfl) (by decide) ?_
      refine g_aload_n B dX8_of_102 0 rfl rfl ?_
      obtain ⟨m21, h⟩ := ck_e h
      refine gt_X6_7 B m21 kf_X8_162 dX8_of_103 ?_
      obtain ⟨rfl, rfl⟩ := some_e h
      exact g_iret B dX8_of_106
    have h := if_f h q20
    by_cases q22 : a2 = (7 : Int32)
    · have h := if_t h q22
      refine g_tableIn (off := 89) B 107 dX8_of_18 (by rw [q22]; decide) (by rw [q22]; decide) (by rw [q22]; rfl) (by decide) ?_
      refine g_aload_n B dX8_of_107 0 rfl rfl ?_
      obtain ⟨m23, h⟩ := ck_e h
      refine gt_X6_8 B m23 kf_X8_90 dX8_of_108 ?_
      obtain ⟨rfl, rfl⟩ := some_e h
      exact g_iret B dX8_of_111
    have h := if_f h q22
    by_cases q24 : a2 = (8 : Int32)
    · have h := if_t h q24
      refine g_tableIn (off := 94) B 112 dX8_of_18 (by rw [q24]; decide) (by rw [q24]; decide) (by rw [q24]; rfl) (by decide) ?_
      refine g_aload_n B dX8_of_112 0 rfl rfl ?_
      obtain ⟨m25, h⟩ := ck_e h
      refine gt_X6_9 B m25 kf_X8_163 dX8_of_113 ?_
      obtain ⟨rfl, rfl⟩ := some_e h
      exact g_iret B dX8_of_116
    have h := if_f h q24
    by_cases q26 : a2 = (9 : Int32)
    · have h := if_t h q26
      refine g_tableIn (off := 99) B 117 dX8_of_18 (by rw [q26]; decide) (by rw [q26]; decide) (by rw [q26]; rfl) (by decide) ?_
      refine g_aload_n B dX8_of_117 0 rfl rfl ?_
      obtain ⟨m27, h⟩ := ck_e h
      refine gt_X6_10 B m27 kf_X8_166 dX8_of_118 ?_
      obtain ⟨rfl, rfl⟩ := some_e h
      exact g_iret B dX8_of_121
    have h := if_f h q26
    refine g_tableOut B 122 dX8_of_18 (by have t0 := ti_ne (0 : Int32) (0) (by decide) q8; have t1 := ti_ne (1 : Int32) (1) (by decide) q10; have t2 := ti_ne (2 : Int32) (2) (by decide) q12; have t3 := ti_ne (3 : Int32) (3) (by decide) q14; have t4 := ti_ne (4 : Int32) (4) (by decide) q16; have t5 := ti_ne (5 : Int32) (5) (by decide) q18; have t6 := ti_ne (6 : Int32) (6) (by decide) q20; have t7 := ti_ne (7 : Int32) (7) (by decide) q22; have t8 := ti_ne (8 : Int32) (8) (by decide) q24; have t9 := ti_ne (9 : Int32) (9) (by decide) q26; omega) (by decide) ?_
    refine g_iconst (v := (-1 : Int32)) B dX8_of_122 (by decide) ?_
    obtain ⟨rfl, rfl⟩ := some_e h
    exact g_iret B dX8_of_123
  · have h := if_t h q5
    refine g_iconst (v := (-1 : Int32)) B dX8_of_8 (by decide) ?_
    obtain ⟨rfl, rfl⟩ := some_e h
    exact g_iret B dX8_of_9
