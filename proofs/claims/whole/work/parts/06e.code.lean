def rm_X8_workAsPlanned : Room := { frames := 1, cells := 0, slots := 0, locals := 22 }
def f_X8_workAsPlanned (cs : List (Nat × Nat)) (N : Nat) (a1 : Nat) (S : HS) : Option (Unit × HS) :=
  ck (mc cs 0 0) (
  ck (mc cs 12 0) (
  ck (mc cs 7 a1) (
  ck (mc cs 13 0) (
  ck (inb (gi S 7 a1 0) 7) (
  lt_ ((gi S 13 0 (gi S 7 a1 0).toNatClampNeg)) (fun x6 =>
  ck (mc cs 13 2) (
  ck (inb (gi S 7 a1 0) 7) (
  lt_ ((gi S 13 2 (gi S 7 a1 0).toNatClampNeg)) (fun x10 =>
  ob (f_X8_isFamily cs N x6 S) (fun r12 S13 =>
  if r12 = 0 then (
    some ((), S13))
  else (
    if x10 = 0 then (
      some ((), S13))
    else (
      ob (f_X6_workBy cs N a1 x6 x10 S13) (fun r17 S18 =>
      if (gi S18 7 a1 9) < (gi S18 7 a1 6) then (
        some ((), S18))
      else (
        lt_ (ui S18 7 a1 8 (1 : Int32)) (fun S21 =>
        ck (mc cs 1 0) (
        ck (inb x6 4) (
        ck (mc cs 4 (x6.toNatClampNeg)) (
        lt_ (ui S21 4 (x6.toNatClampNeg) 2 ((gi S21 4 (x6.toNatClampNeg) 2) - (gi S21 7 a1 7))) (fun S26 =>
        ck (inb x6 4) (
        lt_ (ui S26 4 (x6.toNatClampNeg) 3 ((gi S26 4 (x6.toNatClampNeg) 3) + (gi S26 7 a1 7))) (fun S29 =>
        lt_ (ui S29 0 0 10 ((gi S29 0 0 10) + (gi S29 7 a1 4))) (fun S31 =>
        some ((), S31)))))))))))))))))))))))
set_option maxHeartbeats 4000000 in
set_option maxRecDepth 100000 in
theorem c_X8_workAsPlanned {l : Launch} {D : va_G} {cy : Nat → ClassId} {cs : List (Nat × Nat)} {ad : Nat → Nat → Nat} {Zp : State → Prop} (hA : AdOk cs ad) (hZ : ZOk cs ad Zp) (N : Nat) (a1 : Nat) (S : HS) (r : Unit) (Z : HS) (h : f_X8_workAsPlanned cs N a1 S = some (r, Z)) : Ctr Zp l yX8_workAsPlanned cX8_workAsPlanned 4 none rm_X8_workAsPlanned D cy cs ad [.ref (ad 0 0), .ref (ad 7 a1)] S (none) Z := by
  unfold f_X8_workAsPlanned at h
  refine Ctr.of hA hZ RX8 (plainFor_of_name (by decide)) rfl [(0, .ref (ad 0 0)), (1, .ref (ad 7 a1))] rfl (Nat.le_of_ble_eq_true rfl) (fun p e s m below meth c B => ?_)
  refine g_aload_n B dX8_workAsPlanned_0 0 rfl rfl ?_
  obtain ⟨m1, h⟩ := ck_e h
  refine gt_X8_4 B m1 kf_X8_37 dX8_workAsPlanned_1 ?_
  obtain ⟨m2, h⟩ := ck_e h
  refine gt_X4_2 B m2 kf_X8_172 dX8_workAsPlanned_4 ?_
  refine g_aload_n B dX8_workAsPlanned_7 1 rfl rfl ?_
  obtain ⟨m3, h⟩ := ck_e h
  refine gt_X6_0 B m3 kf_X8_111 dX8_workAsPlanned_8 ?_
  obtain ⟨m4, h⟩ := ck_e h
  obtain ⟨b5, h⟩ := ck_e h
  refine g_iald (n := 7) B m4 (fun _ => rfl) b5 dX8_workAsPlanned_11 ?_
  obtain ⟨x6, e7, h⟩ := lt_e h
  refine g_topi e7 ?_
  refine g_istore_n (lv' := [(2, .int x6), (0, .ref (ad 0 0)), (1, .ref (ad 7 a1))]) B dX8_workAsPlanned_12 rfl (by decide) rfl ?_
  refine g_aload_n B dX8_workAsPlanned_13 1 rfl rfl ?_
  refine gt_X8_4 B m1 kf_X8_37 dX8_workAsPlanned_14 ?_
  refine gt_X4_4 B m2 kf_X8_186 dX8_workAsPlanned_17 ?_
  refine g_aload_n B dX8_workAsPlanned_20 2 rfl rfl ?_
  refine gt_X6_0 B m3 kf_X8_111 dX8_workAsPlanned_21 ?_
  obtain ⟨m8, h⟩ := ck_e h
  obtain ⟨b9, h⟩ := ck_e h
  refine g_iald (n := 7) B m8 (fun _ => rfl) b9 dX8_workAsPlanned_24 ?_
  obtain ⟨x10, e11, h⟩ := lt_e h
  refine g_topi e11 ?_
  refine g_istore_n (lv' := [(3, .int x10), (2, .int x6), (0, .ref (ad 0 0)), (1, .ref (ad 7 a1))]) B dX8_workAsPlanned_25 rfl (by decide) rfl ?_
  refine g_iload_n B dX8_workAsPlanned_26 1 rfl rfl ?_
  obtain ⟨r12, S13, e14, h⟩ := ob_e h
  refine g_csi (rest := []) B (c_X8_isFamily hA hZ N _ _ _ _ e14) mf_X8_isFamily km_X8_56 ⟨by decide, by decide⟩ ⟨rfl, rfl⟩ rfl rfl (Nat.le_of_ble_eq_true rfl) ⟨Nat.zero_le _, Nat.zero_le _⟩ dX8_workAsPlanned_27 ?_
  refine g_if_eq B 37 dX8_workAsPlanned_30 (by decide) (fun q15 => ?_) (fun q15 => ?_)
  · have h := if_t h q15
    obtain ⟨-, rfl⟩ := some_e h
    exact g_vret B dX8_workAsPlanned_37
  · have h := if_f h q15
    refine g_iload_n B dX8_workAsPlanned_33 0 rfl rfl ?_
    refine g_if_ne B 38 dX8_workAsPlanned_34 (by decide) (fun q16 => ?_) (fun q16 => ?_)
    · have h := if_f h q16
      refine g_aload_n B dX8_workAsPlanned_38 3 rfl rfl ?_
      refine g_iload_n B dX8_workAsPlanned_39 1 rfl rfl ?_
      refine g_iload_n B dX8_workAsPlanned_40 0 rfl rfl ?_
      obtain ⟨r17, S18, e19, h⟩ := ob_e h
      refine g_cvv (rest := []) B (c_X6_workBy hA hZ N _ _ _ _ _ _ e19) mf_X6_workBy km_X8_189 ⟨by decide, by decide⟩ ⟨rfl, rfl⟩ m3 rfl rfl rfl rfl (Nat.le_of_ble_eq_true rfl) ⟨Nat.zero_le _, Nat.zero_le _⟩ dX8_workAsPlanned_41 ?_
      refine g_aload_n B dX8_workAsPlanned_44 3 rfl rfl ?_
      refine gt_X6_9 B m3 kf_X8_163 dX8_workAsPlanned_45 ?_
      refine g_aload_n B dX8_workAsPlanned_48 3 rfl rfl ?_
      refine gt_X6_6 B m3 kf_X8_161 dX8_workAsPlanned_49 ?_
      refine g_icmp_lt B 109 dX8_workAsPlanned_52 (by decide) (fun q20 => ?_) (fun q20 => ?_)
      · have h := if_t h q20
        obtain ⟨-, rfl⟩ := some_e h
        exact g_vret B dX8_workAsPlanned_109
      · have h := if_f h q20
        refine g_aload_n B dX8_workAsPlanned_55 3 rfl rfl ?_
        refine g_iconst (v := (1 : Int32)) B dX8_workAsPlanned_56 (by decide) ?_
        obtain ⟨S21, e22, h⟩ := lt_e h
        refine pt_X6_8 B m3 kf_X8_90 e22 dX8_workAsPlanned_57 ?_
        refine g_aload_n B dX8_workAsPlanned_60 2 rfl rfl ?_
        refine gt_X8_0 B m1 kf_X8_11 dX8_workAsPlanned_61 ?_
        refine g_iload_n B dX8_workAsPlanned_64 1 rfl rfl ?_
        obtain ⟨m23, h⟩ := ck_e h
        obtain ⟨b24, h⟩ := ck_e h
        refine g_aald (t0 := 4) (a := ad 4 (x6.toNatClampNeg)) B rfl rfl m23 rfl b24 rfl dX8_workAsPlanned_65 ?_
        refine g_dup B dX8_workAsPlanned_66 rfl ?_
        obtain ⟨m25, h⟩ := ck_e h
        refine gt_X2_2 B m25 kf_X8_100 dX8_workAsPlanned_67 ?_
        refine g_aload_n B dX8_workAsPlanned_70 3 rfl rfl ?_
        refine gt_X6_7 B m3 kf_X8_162 dX8_workAsPlanned_71 ?_
        refine g_isub B dX8_workAsPlanned_74 ?_
        obtain ⟨S26, e27, h⟩ := lt_e h
        refine pt_X2_2 B m25 kf_X8_100 e27 dX8_workAsPlanned_75 ?_
        refine g_aload_n B dX8_workAsPlanned_78 2 rfl rfl ?_
        refine gt_X8_0 B m1 kf_X8_11 dX8_workAsPlanned_79 ?_
        refine g_iload_n B dX8_workAsPlanned_82 1 rfl rfl ?_
        obtain ⟨b28, h⟩ := ck_e h
        refine g_aald (t0 := 4) (a := ad 4 (x6.toNatClampNeg)) B rfl rfl m23 rfl b28 rfl dX8_workAsPlanned_83 ?_
        refine g_dup B dX8_workAsPlanned_84 rfl ?_
        refine gt_X2_3 B m25 kf_X8_145 dX8_workAsPlanned_85 ?_
        refine g_aload_n B dX8_workAsPlanned_88 3 rfl rfl ?_
        refine gt_X6_7 B m3 kf_X8_162 dX8_workAsPlanned_89 ?_
        refine g_iadd B dX8_workAsPlanned_92 ?_
        obtain ⟨S29, e30, h⟩ := lt_e h
        refine pt_X2_3 B m25 kf_X8_145 e30 dX8_workAsPlanned_93 ?_
        refine g_aload_n B dX8_workAsPlanned_96 2 rfl rfl ?_
        refine g_dup B dX8_workAsPlanned_97 rfl ?_
        refine gt_X8_10 B m1 kf_X8_155 dX8_workAsPlanned_98 ?_
        refine g_aload_n B dX8_workAsPlanned_101 3 rfl rfl ?_
        refine gt_X6_4 B m3 kf_X8_108 dX8_workAsPlanned_102 ?_
        refine g_iadd B dX8_workAsPlanned_105 ?_
        obtain ⟨S31, e32, h⟩ := lt_e h
        refine pt_X8_10 B m1 kf_X8_155 e32 dX8_workAsPlanned_106 ?_
        obtain ⟨-, rfl⟩ := some_e h
        exact g_vret B dX8_workAsPlanned_109
    · have h := if_t h q16
      obtain ⟨-, rfl⟩ := some_e h
      exact g_vret B dX8_workAsPlanned_37

def rm_X8_isWeekToCome : Room := { frames := 1, cells := 0, slots := 0, locals := 22 }
def f_X8_isWeekToCome (cs : List (Nat × Nat)) (N : Nat) (a1 : Int32) (S : HS) : Option (Int32 × HS) :=
  ck (mc cs 0 0) (
  ob (f_X8_isWithin cs N a1 (gi S 0 0 8) (51 : Int32) S) (fun r2 S3 =>
  ck (b01 r2) (
  some (r2, S3))))
set_option maxHeartbeats 4000000 in
set_option maxRecDepth 100000 in
theorem c_X8_isWeekToCome {l : Launch} {D : va_G} {cy : Nat → ClassId} {cs : List (Nat × Nat)} {ad : Nat → Nat → Nat} {Zp : State → Prop} (hA : AdOk cs ad) (hZ : ZOk cs ad Zp) (N : Nat) (a1 : Int32) (S : HS) (r : Int32) (Z : HS) (h : f_X8_isWeekToCome cs N a1 S = some (r, Z)) : Ctr Zp l yX8_isWeekToCome cX8_isWeekToCome 2 (some .boolean) rm_X8_isWeekToCome D cy cs ad [.ref (ad 0 0), .int a1] S (some (.int r)) Z := by
  unfold f_X8_isWeekToCome at h
  refine Ctr.of hA hZ RX8 (plainFor_of_name (by decide)) rfl [(0, .ref (ad 0 0)), (1, .int a1)] rfl (Nat.le_of_ble_eq_true rfl) (fun p e s m below meth c B => ?_)
  refine g_iload_n B dX8_isWeekToCome_0 1 rfl rfl ?_
  refine g_aload_n B dX8_isWeekToCome_1 0 rfl rfl ?_
  obtain ⟨m1, h⟩ := ck_e h
  refine gt_X8_8 B m1 kf_X8_148 dX8_isWeekToCome_2 ?_
  refine g_bipush (v := (51 : Int32)) B dX8_isWeekToCome_5 (by decide) ?_
  obtain ⟨r2, S3, e4, h⟩ := ob_e h
  refine g_csi (rest := []) B (c_X8_isWithin hA hZ N _ _ _ _ _ _ e4) mf_X8_isWithin km_X8_63 ⟨by decide, by decide⟩ ⟨rfl, rfl⟩ rfl rfl (Nat.le_of_ble_eq_true rfl) ⟨Nat.zero_le _, Nat.zero_le _⟩ dX8_isWeekToCome_7 ?_
  obtain ⟨b5, h⟩ := ck_e h
  obtain ⟨rfl, rfl⟩ := some_e h
  exact g_zret B b5 dX8_isWeekToCome_10

def rm_X4_addToSets : Room := { frames := 2, cells := 0, slots := 0, locals := 50 }
def f_X4_addToSets_128 (cs : List (Nat × Nat)) (N : Nat) (K18 : Nat → Nat → Nat → Int32 → Int64 → Int32 → HS → Option (Unit × HS)) (k2 : Nat) (k3 : Nat) (k4 : Nat) (v5 : Int32) (v6 : Int64) (v8 : Int32) (v9 : Int32) (t0 : Int32) (t1 : Int32) (S : HS) : Option (Unit × HS) :=
  ck (mc cs 15 0) (
  ck (inb t1 128) (
  lt_ (ui S 15 0 t1.toNatClampNeg (vp_nar .boolean t0)) (fun S3 =>
  ck (mc cs 12 0) (
  ck (mc cs 14 0) (
  ck (mc cs 16 0) (
  ck (inb v9 128) (
  lt_ (ui S3 16 0 v9.toNatClampNeg (gi S3 14 0 0)) (fun S9 =>
  ck (mc cs 16 1) (
  ck (inb v9 128) (
  lt_ (ui S9 16 1 v9.toNatClampNeg (gi S9 14 0 1)) (fun S13 =>
  ck (mc cs 17 0) (
  ck (inb v8 128) (
  ck (inb v9 128) (
  lt_ (ul S13 17 0 v9.toNatClampNeg ((gl S13 17 0 v8.toNatClampNeg) + v6)) (fun S18 =>
  lt_ (v8 + (1 : Int32)) (fun x20 =>
  K18 k2 k3 k4 v5 v6 x20 S18))))))))))))))))
set_option maxHeartbeats 4000000 in
set_option maxRecDepth 100000 in
theorem b_X4_addToSets_128 {p : Program} {l : Launch} {e : Env} {s : State} {m : MethodId} {args : Array Value} {below : List Frame} {meth : Method} {c : Code} {D : va_G} {cy : Nat → ClassId} {cs : List (Nat × Nat)} {ad : Nat → Nat → Nat} {r : Unit} {Z : HS} (B : Bd p s m args meth c D cy cs ad (gZ cs ad) cX4_addToSets 10 RX4 none) (N : Nat) (K18 : Nat → Nat → Nat → Int32 → Int64 → Int32 → HS → Option (Unit × HS)) (hK18 : ∀ (k2 : Nat) (k3 : Nat) (k4 : Nat) (v5 : Int32) (v6 : Int64) (v8 : Int32) (S : HS), K18 k2 k3 k4 v5 v6 v8 S = some (r, Z) → GW p l e rm_X4_addToSets s m args below meth c (QM below args s D cy cs ad (none) Z) D cy cs ad 0 0 10 18 [(0, .ref (ad 12 0)), (2, .ref (ad 7 k2)), (3, .ref (ad 4 k3)), (4, .ref (ad 20 k4)), (5, .int v5), (6, .long v6), (8, .int v8)] [] S) (k2 : Nat) (k3 : Nat) (k4 : Nat) (v5 : Int32) (v6 : Int64) (v8 : Int32) (v9 : Int32) (t0 : Int32) (t1 : Int32) (S : HS) (h : f_X4_addToSets_128 cs N K18 k2 k3 k4 v5 v6 v8 v9 t0 t1 S = some (r, Z)) : GW p l e rm_X4_addToSets s m args below meth c (QM below args s D cy cs ad (none) Z) D cy cs ad 0 0 10 128 [(0, .ref (ad 12 0)), (2, .ref (ad 7 k2)), (3, .ref (ad 4 k3)), (4, .ref (ad 20 k4)), (5, .int v5), (6, .long v6), (8, .int v8), (9, .int v9)] [.int t0, .int t1, .ref (ad 15 0)] S := by
  have hA := B.2.2.2.2.2.2.1
  have hZ := B.2.2.2.2.2.2.2.2.2.2
  unfold f_X4_addToSets_128 at h
  obtain ⟨m1, h⟩ := ck_e h
  obtain ⟨b2, h⟩ := ck_e h
  obtain ⟨S3, e4, h⟩ := lt_e h
  refine g_zast (n := 128) B m1 b2 (fun _ => rfl) e4 dX4_addToSets_128 ?_
  refine g_aload_n B dX4_addToSets_129 0 rfl rfl ?_
  obtain ⟨m5, h⟩ := ck_e h
  refine gt_X4_9 B m5 kf_X4_35 dX4_addToSets_130 ?_
  refine g_iload B dX4_addToSets_133 7 rfl ?_
  refine g_aload_n B dX4_addToSets_135 0 rfl rfl ?_
  refine gt_X4_7 B m5 kf_X4_27 dX4_addToSets_136 ?_
  obtain ⟨m6, h⟩ := ck_e h
  refine gt_X0_0 B m6 kf_X4_100 dX4_addToSets_139 ?_
  obtain ⟨m7, h⟩ := ck_e h
  obtain ⟨b8, h⟩ := ck_e h
  obtain ⟨S9, e10, h⟩ := lt_e h
  refine g_iast (n := 128) B m7 b8 (fun _ => rfl) e10 dX4_addToSets_142 ?_
  refine g_aload_n B dX4_addToSets_143 0 rfl rfl ?_
  refine gt_X4_10 B m5 kf_X4_38 dX4_addToSets_144 ?_
  refine g_iload B dX4_addToSets_147 7 rfl ?_
  refine g_aload_n B dX4_addToSets_149 0 rfl rfl ?_
  refine gt_X4_7 B m5 kf_X4_27 dX4_addToSets_150 ?_
  refine gt_X0_1 B m6 kf_X4_103 dX4_addToSets_153 ?_
  obtain ⟨m11, h⟩ := ck_e h
  obtain ⟨b12, h⟩ := ck_e h
  obtain ⟨S13, e14, h⟩ := lt_e h
  refine g_iast (n := 128) B m11 b12 (fun _ => rfl) e14 dX4_addToSets_156 ?_
  refine g_aload_n B dX4_addToSets_157 0 rfl rfl ?_
  refine gt_X4_12 B m5 kf_X4_44 dX4_addToSets_158 ?_
  refine g_iload B dX4_addToSets_161 7 rfl ?_
  refine g_aload_n B dX4_addToSets_163 0 rfl rfl ?_
  refine gt_X4_12 B m5 kf_X4_44 dX4_addToSets_164 ?_
  refine g_iload B dX4_addToSets_167 6 rfl ?_
  obtain ⟨m15, h⟩ := ck_e h
  obtain ⟨b16, h⟩ := ck_e h
  refine g_lald (n := 128) B m15 (fun _ => rfl) b16 dX4_addToSets_169 ?_
  refine g_lload B dX4_addToSets_170 5 rfl ?_
  refine g_ladd B dX4_addToSets_172 ?_
  obtain ⟨b17, h⟩ := ck_e h
  obtain ⟨S18, e19, h⟩ := lt_e h
  refine g_last (n := 128) B m15 b17 (fun _ => rfl) e19 dX4_addToSets_173 ?_
  obtain ⟨x20, e21, h⟩ := lt_e h
  refine g_iinc (v := x20) (lv' := [(8, .int x20), (0, .ref (ad 12 0)), (2, .ref (ad 7 k2)), (3, .ref (ad 4 k3)), (4, .ref (ad 20 k4)), (5, .int v5), (6, .long v6), (9, .int v9)]) B dX4_addToSets_174 (k := 6) rfl (by rw [e21]; rfl) (by decide) rfl ?_
  refine g_goto B 18 dX4_addToSets_177 (by decide) ?_
  refine g_sub [1, 2, 3, 4, 5, 6, 0] rfl ?_
  exact hK18 _ _ _ _ _ _ _ h
def f_X4_addToSets_18 (cs : List (Nat × Nat)) (N : Nat)  : Nat → Nat → Nat → Nat → Int32 → Int64 → Int32 → HS → Option (Unit × HS)
  | 0, _, _, _, _, _, _, _ => none
  | n + 1, k2, k3, k4, v5, v6, v8, S =>
    if v5 ≤ v8 then (
      some ((), S))
    else (
      lt_ ((v8 ||| v5)) (fun x2 =>
      ck (mc cs 12 0) (
      ck (mc cs 16 0) (
      ck (inb v8 128) (
      ck (mc cs 14 0) (
      lt_ (ui S 14 0 0 (gi S 16 0 v8.toNatClampNeg)) (fun S8 =>
      ck (mc cs 16 1) (
      ck (inb v8 128) (
      lt_ (ui S8 14 0 1 (gi S8 16 1 v8.toNatClampNeg)) (fun S12 =>
      ck (mc cs 16 2) (
      ck (inb v8 128) (
      ck (mc cs 7 k2) (
      ck (inb x2 128) (
      lt_ (ui S12 16 2 x2.toNatClampNeg ((gi S12 16 2 v8.toNatClampNeg) + (gi S12 7 k2 7))) (fun S18 =>
      ck (mc cs 15 0) (
      ck (inb v8 128) (
      if (gi S18 15 0 v8.toNatClampNeg) = 0 then (
        f_X4_addToSets_128 cs N (f_X4_addToSets_18 cs N n) k2 k3 k4 v5 v6 v8 x2 (0 : Int32) x2 S18)
      else (
        ck (inb x2 128) (
        ck (mc cs 4 k3) (
        if (gi S18 4 k3 2) < (gi S18 16 2 x2.toNatClampNeg) then (
          f_X4_addToSets_128 cs N (f_X4_addToSets_18 cs N n) k2 k3 k4 v5 v6 v8 x2 (0 : Int32) x2 S18)
        else (
          ob (f_X0_lay cs N k2 k3 k4 S18) (fun r26 S27 =>
          if r26 = 0 then (
            f_X4_addToSets_128 cs N (f_X4_addToSets_18 cs N n) k2 k3 k4 v5 v6 v8 x2 (0 : Int32) x2 S27)
          else (
            f_X4_addToSets_128 cs N (f_X4_addToSets_18 cs N n) k2 k3 k4 v5 v6 v8 x2 (1 : Int32) x2 S27)))))))))))))))))))))))
set_option maxHeartbeats 4000000 in
set_option maxRecDepth 100000 in
theorem b_X4_addToSets_18 {p : Program} {l : Launch} {e : Env} {s : State} {m : MethodId} {args : Array Value} {below : List Frame} {meth : Method} {c : Code} {D : va_G} {cy : Nat → ClassId} {cs : List (Nat × Nat)} {ad : Nat → Nat → Nat} {r : Unit} {Z : HS} (B : Bd p s m args meth c D cy cs ad (gZ cs ad) cX4_addToSets 10 RX4 none) (N : Nat)  : ∀ (n : Nat) (k2 : Nat) (k3 : Nat) (k4 : Nat) (v5 : Int32) (v6 : Int64) (v8 : Int32) (S : HS), f_X4_addToSets_18 cs N n k2 k3 k4 v5 v6 v8 S = some (r, Z) → GW p l e rm_X4_addToSets s m args below meth c (QM below args s D cy cs ad (none) Z) D cy cs ad 0 0 10 18 [(0, .ref (ad 12 0)), (2, .ref (ad 7 k2)), (3, .ref (ad 4 k3)), (4, .ref (ad 20 k4)), (5, .int v5), (6, .long v6), (8, .int v8)] [] S := by
  have hA := B.2.2.2.2.2.2.1
  have hZ := B.2.2.2.2.2.2.2.2.2.2
  intro n
  induction n with
  | zero => intro k2 k3 k4 v5 v6 v8 S h; cases h
  | succ n ih =>
    intro k2 k3 k4 v5 v6 v8 S h
    rw [f_X4_addToSets_18] at h
    refine g_iload B dX4_addToSets_18 6 rfl ?_
    refine g_iload B dX4_addToSets_20 4 rfl ?_
    refine g_icmp_ge B 180 dX4_addToSets_22 (by decide) (fun q1 => ?_) (fun q1 => ?_)
    · have h := if_t h q1
      obtain ⟨-, rfl⟩ := some_e h
      exact g_vret B dX4_addToSets_180
    · have h := if_f h q1
      refine g_iload B dX4_addToSets_25 6 rfl ?_
      refine g_iload B dX4_addToSets_27 4 rfl ?_
      refine g_ior B dX4_addToSets_29 ?_
      obtain ⟨x2, e3, h⟩ := lt_e h
      refine g_topi e3 ?_
      refine g_istore (lv' := [(9, .int x2), (0, .ref (ad 12 0)), (2, .ref (ad 7 k2)), (3, .ref (ad 4 k3)), (4, .ref (ad 20 k4)), (5, .int v5), (6, .long v6), (8, .int v8)]) B dX4_addToSets_30 (by decide) rfl ?_
      refine g_aload_n B dX4_addToSets_32 1 rfl rfl ?_
      obtain ⟨m4, h⟩ := ck_e h
      refine gt_X4_7 B m4 kf_X4_27 dX4_addToSets_33 ?_
      refine g_aload_n B dX4_addToSets_36 1 rfl rfl ?_
      refine gt_X4_9 B m4 kf_X4_35 dX4_addToSets_37 ?_
      refine g_iload B dX4_addToSets_40 7 rfl ?_
      obtain ⟨m5, h⟩ := ck_e h
      obtain ⟨b6, h⟩ := ck_e h
      refine g_iald (n := 128) B m5 (fun _ => rfl) b6 dX4_addToSets_42 ?_
      obtain ⟨m7, h⟩ := ck_e h
      obtain ⟨S8, e9, h⟩ := lt_e h
      refine pt_X0_0 B m7 kf_X4_100 e9 dX4_addToSets_43 ?_
      refine g_aload_n B dX4_addToSets_46 1 rfl rfl ?_
      refine gt_X4_7 B m4 kf_X4_27 dX4_addToSets_47 ?_
      refine g_aload_n B dX4_addToSets_50 1 rfl rfl ?_
      refine gt_X4_10 B m4 kf_X4_38 dX4_addToSets_51 ?_
      refine g_iload B dX4_addToSets_54 7 rfl ?_
      obtain ⟨m10, h⟩ := ck_e h
      obtain ⟨b11, h⟩ := ck_e h
      refine g_iald (n := 128) B m10 (fun _ => rfl) b11 dX4_addToSets_56 ?_
      obtain ⟨S12, e13, h⟩ := lt_e h
      refine pt_X0_1 B m7 kf_X4_103 e13 dX4_addToSets_57 ?_
      refine g_aload_n B dX4_addToSets_60 1 rfl rfl ?_
      refine gt_X4_11 B m4 kf_X4_41 dX4_addToSets_61 ?_
      refine g_iload B dX4_addToSets_64 0 rfl ?_
      refine g_aload_n B dX4_addToSets_66 1 rfl rfl ?_
      refine gt_X4_11 B m4 kf_X4_41 dX4_addToSets_67 ?_
      refine g_iload B dX4_addToSets_70 7 rfl ?_
      obtain ⟨m14, h⟩ := ck_e h
      obtain ⟨b15, h⟩ := ck_e h
      refine g_iald (n := 128) B m14 (fun _ => rfl) b15 dX4_addToSets_72 ?_
      refine g_aload_n B dX4_addToSets_73 2 rfl rfl ?_
      obtain ⟨m16, h⟩ := ck_e h
      refine gt_X6_7 B m16 kf_X4_106 dX4_addToSets_74 ?_
      refine g_iadd B dX4_addToSets_77 ?_
      obtain ⟨b17, h⟩ := ck_e h
      obtain ⟨S18, e19, h⟩ := lt_e h
      refine g_iast (n := 128) B m14 b17 (fun _ => rfl) e19 dX4_addToSets_78 ?_
      refine g_aload_n B dX4_addToSets_79 1 rfl rfl ?_
      refine gt_X4_8 B m4 kf_X4_31 dX4_addToSets_80 ?_
      refine g_iload B dX4_addToSets_83 0 rfl ?_
      refine g_aload_n B dX4_addToSets_85 1 rfl rfl ?_
      refine gt_X4_8 B m4 kf_X4_31 dX4_addToSets_86 ?_
      refine g_iload B dX4_addToSets_89 7 rfl ?_
      obtain ⟨m20, h⟩ := ck_e h
      obtain ⟨b21, h⟩ := ck_e h
      refine g_zald (n := 128) B m20 (fun _ => rfl) b21 dX4_addToSets_91 ?_
      refine g_if_eq B 127 dX4_addToSets_92 (by decide) (fun q22 => ?_) (fun q22 => ?_)
      · have h := if_t h q22
        refine g_iconst (v := (0 : Int32)) B dX4_addToSets_127 (by decide) ?_
        refine g_sub [1, 2, 3, 4, 5, 6, 7, 0] rfl ?_
        exact b_X4_addToSets_128 B N _ ih _ _ _ _ _ _ _ _ _ _ h
      · have h := if_f h q22
        refine g_aload_n B dX4_addToSets_95 1 rfl rfl ?_
        refine gt_X4_11 B m4 kf_X4_41 dX4_addToSets_96 ?_
        refine g_iload B dX4_addToSets_99 0 rfl ?_
        obtain ⟨b23, h⟩ := ck_e h
        refine g_iald (n := 128) B m14 (fun _ => rfl) b23 dX4_addToSets_101 ?_
        refine g_aload_n B dX4_addToSets_102 3 rfl rfl ?_
        obtain ⟨m24, h⟩ := ck_e h
        refine gt_X2_2 B m24 kf_X4_108 dX4_addToSets_103 ?_
        refine g_icmp_gt B 127 dX4_addToSets_106 (by decide) (fun q25 => ?_) (fun q25 => ?_)
        · have h := if_t h q25
          refine g_iconst (v := (0 : Int32)) B dX4_addToSets_127 (by decide) ?_
          refine g_sub [1, 2, 3, 4, 5, 6, 7, 0] rfl ?_
          exact b_X4_addToSets_128 B N _ ih _ _ _ _ _ _ _ _ _ _ h
        · have h := if_f h q25
          refine g_aload_n B dX4_addToSets_109 1 rfl rfl ?_
          refine gt_X4_7 B m4 kf_X4_27 dX4_addToSets_110 ?_
          refine g_aload_n B dX4_addToSets_113 2 rfl rfl ?_
          refine g_aload_n B dX4_addToSets_114 3 rfl rfl ?_
          refine g_aload B dX4_addToSets_115 4 rfl ?_
          obtain ⟨r26, S27, e28, h⟩ := ob_e h
          refine g_cvi (rest := [.int x2, .ref (ad 15 0)]) B (c_X0_lay hA hZ N _ _ _ _ _ _ e28) mf_X0_lay km_X4_109 ⟨by decide, by decide⟩ ⟨rfl, rfl⟩ m7 rfl rfl rfl rfl (Nat.le_of_ble_eq_true rfl) ⟨Nat.zero_le _, Nat.zero_le _⟩ dX4_addToSets_117 ?_
          refine g_if_eq B 127 dX4_addToSets_120 (by decide) (fun q29 => ?_) (fun q29 => ?_)
          · have h := if_t h q29
            refine g_iconst (v := (0 : Int32)) B dX4_addToSets_127 (by decide) ?_
            refine g_sub [1, 2, 3, 4, 5, 6, 7, 0] rfl ?_
            exact b_X4_addToSets_128 B N _ ih _ _ _ _ _ _ _ _ _ _ h
          · have h := if_f h q29
            refine g_iconst (v := (1 : Int32)) B dX4_addToSets_123 (by decide) ?_
            refine g_goto B 128 dX4_addToSets_124 (by decide) ?_
            refine g_sub [1, 2, 3, 4, 5, 6, 7, 0] rfl ?_
            exact b_X4_addToSets_128 B N _ ih _ _ _ _ _ _ _ _ _ _ h
def f_X4_addToSets (cs : List (Nat × Nat)) (N : Nat) (a1 : Int32) (a2 : Nat) (a3 : Nat) (a4 : Nat) (S : HS) : Option (Unit × HS) :=
  lt_ (((1 : Int32) <<< (a1 &&& 31))) (fun x1 =>
  ck (mc cs 4 a3) (
  ob (f_X4_rankOf cs N a2 (gi S 4 a3 0) S) (fun r4 S5 =>
  f_X4_addToSets_18 cs N N a2 a3 a4 x1 r4 (0 : Int32) S5)))
set_option maxHeartbeats 4000000 in
set_option maxRecDepth 100000 in
theorem c_X4_addToSets {l : Launch} {D : va_G} {cy : Nat → ClassId} {cs : List (Nat × Nat)} {ad : Nat → Nat → Nat} (hA : AdOk cs ad) (N : Nat) (a1 : Int32) (a2 : Nat) (a3 : Nat) (a4 : Nat) (S : HS) (r : Unit) (Z : HS) (h : f_X4_addToSets cs N a1 a2 a3 a4 S = some (r, Z)) : Ctr (gZ cs ad) l yX4_addToSets cX4_addToSets 10 none rm_X4_addToSets D cy cs ad [.ref (ad 12 0), .int a1, .ref (ad 7 a2), .ref (ad 4 a3), .ref (ad 20 a4)] S (none) Z := by
  have hZ := gZ_ok cs ad
  unfold f_X4_addToSets at h
  refine Ctr.of hA (gZ_ok cs ad) RX4 (plainFor_of_name (by decide)) rfl [(0, .ref (ad 12 0)), (1, .int a1), (2, .ref (ad 7 a2)), (3, .ref (ad 4 a3)), (4, .ref (ad 20 a4))] rfl (Nat.le_of_ble_eq_true rfl) (fun p e s m below meth c B => ?_)
  refine g_iconst (v := (1 : Int32)) B dX4_addToSets_0 (by decide) ?_
  refine g_iload_n B dX4_addToSets_1 1 rfl rfl ?_
  refine g_ishl B dX4_addToSets_2 ?_
  obtain ⟨x1, e2, h⟩ := lt_e h
  refine g_topi e2 ?_
  refine g_istore (lv' := [(5, .int x1), (0, .ref (ad 12 0)), (1, .int a1), (2, .ref (ad 7 a2)), (3, .ref (ad 4 a3)), (4, .ref (ad 20 a4))]) B dX4_addToSets_3 (by decide) rfl ?_
  refine g_aload_n B dX4_addToSets_5 3 rfl rfl ?_
  refine g_aload_n B dX4_addToSets_6 4 rfl rfl ?_
  obtain ⟨m3, h⟩ := ck_e h
  refine gt_X2_0 B m3 kf_X4_93 dX4_addToSets_7 ?_
  obtain ⟨r4, S5, e6, h⟩ := ob_e h
  refine g_csl (rest := []) B (c_X4_rankOf hA N _ _ _ _ _ e6) mf_X4_rankOf km_X4_96 ⟨by decide, by decide⟩ ⟨rfl, rfl⟩ rfl rfl (Nat.le_of_ble_eq_true rfl) ⟨Nat.zero_le _, Nat.zero_le _⟩ dX4_addToSets_10 ?_
  refine g_lstore (lv' := [(6, .long r4), (5, .int x1), (0, .ref (ad 12 0)), (1, .int a1), (2, .ref (ad 7 a2)), (3, .ref (ad 4 a3)), (4, .ref (ad 20 a4))]) B dX4_addToSets_13 (by decide) rfl ?_
  refine g_iconst (v := (0 : Int32)) B dX4_addToSets_15 (by decide) ?_
  refine g_istore (lv' := [(8, .int (0 : Int32)), (6, .long r4), (5, .int x1), (0, .ref (ad 12 0)), (1, .int a1), (2, .ref (ad 7 a2)), (3, .ref (ad 4 a3)), (4, .ref (ad 20 a4))]) B dX4_addToSets_16 (by decide) rfl ?_
  refine g_sub [3, 5, 6, 7, 2, 1, 0] rfl ?_
  exact b_X4_addToSets_18 B N N _ _ _ _ _ _ _ h

def rm_X4_tellWay : Room := { frames := 3, cells := 0, slots := 0, locals := 76 }
def f_X4_tellWay_109 (cs : List (Nat × Nat)) (N : Nat) (K63 : Nat → Int32 → Int32 → Int32 → HS → Option (Unit × HS)) : Nat → Nat → Int32 → Int32 → Int32 → Int32 → Int32 → HS → Option (Unit × HS)
  | 0, _, _, _, _, _, _, _ => none
  | n + 1, k3, v4, v5, v6, v7, v8, S =>
    ck (mc cs 12 0) (
    if (gi S 12 0 6) ≤ v8 then (
      lt_ ((v5 ^^^ v7)) (fun x3 =>
      lt_ (v6 + (-1 : Int32)) (fun x5 =>
      K63 k3 v4 x3 x5 S)))
    else (
      if ((v7 >>> (v8 &&& 31)) &&& (1 : Int32)) = (1 : Int32) then (
        ck (mc cs 13 3) (
        ck (inb v8 7) (
        ck (mc cs 3 0) (
        ck (inb (gi S 13 3 v8.toNatClampNeg) 7) (
        ck (mc cs 1 0) (
        ck (inb v6 4) (
        ob (f_X4_tellOrder cs N ((gi S 13 3 v8.toNatClampNeg).toNatClampNeg) (v6.toNatClampNeg) k3 v4 S) (fun r16 S17 =>
        lt_ (v8 + (1 : Int32)) (fun x19 =>
        f_X4_tellWay_109 cs N K63 n k3 v4 v5 v6 v7 x19 S17)))))))))
      else (
        lt_ (v8 + (1 : Int32)) (fun x8 =>
        f_X4_tellWay_109 cs N K63 n k3 v4 v5 v6 v7 x8 S))))
set_option maxHeartbeats 4000000 in
set_option maxRecDepth 100000 in
theorem b_X4_tellWay_109 {p : Program} {l : Launch} {e : Env} {s : State} {m : MethodId} {args : Array Value} {below : List Frame} {meth : Method} {c : Code} {D : va_G} {cy : Nat → ClassId} {cs : List (Nat × Nat)} {ad : Nat → Nat → Nat} {Zp : State → Prop} {r : Unit} {Z : HS} (B : Bd p s m args meth c D cy cs ad Zp cX4_tellWay 9 RX4 none) (N : Nat) (K63 : Nat → Int32 → Int32 → Int32 → HS → Option (Unit × HS)) (hK63 : ∀ (k3 : Nat) (v4 : Int32) (v5 : Int32) (v6 : Int32) (S : HS), K63 k3 v4 v5 v6 S = some (r, Z) → GW p l e rm_X4_tellWay s m args below meth c (QM below args s D cy cs ad (none) Z) D cy cs ad 0 0 9 63 [(0, .ref (ad 12 0)), (1, .ref (ad 1 0)), (2, .ref (ad 3 0)), (3, .ref (ad 20 k3)), (4, .int v4), (5, .int v5), (6, .int v6)] [] S) : ∀ (n : Nat) (k3 : Nat) (v4 : Int32) (v5 : Int32) (v6 : Int32) (v7 : Int32) (v8 : Int32) (S : HS), f_X4_tellWay_109 cs N K63 n k3 v4 v5 v6 v7 v8 S = some (r, Z) → GW p l e rm_X4_tellWay s m args below meth c (QM below args s D cy cs ad (none) Z) D cy cs ad 0 0 9 109 [(0, .ref (ad 12 0)), (1, .ref (ad 1 0)), (2, .ref (ad 3 0)), (3, .ref (ad 20 k3)), (4, .int v4), (5, .int v5), (6, .int v6), (7, .int v7), (8, .int v8)] [] S := by
  have hA := B.2.2.2.2.2.2.1
  have hZ := B.2.2.2.2.2.2.2.2.2.2
  intro n
  induction n with
  | zero => intro k3 v4 v5 v6 v7 v8 S h; cases h
  | succ n ih =>
    intro k3 v4 v5 v6 v7 v8 S h
    rw [f_X4_tellWay_109] at h
    refine g_iload B dX4_tellWay_109 8 rfl ?_
    refine g_aload_n B dX4_tellWay_111 0 rfl rfl ?_
    obtain ⟨m1, h⟩ := ck_e h
    refine gt_X4_6 B m1 kf_X4_60 dX4_tellWay_112 ?_
    refine g_icmp_ge B 155 dX4_tellWay_115 (by decide) (fun q2 => ?_) (fun q2 => ?_)
    · have h := if_t h q2
      refine g_iload B dX4_tellWay_155 5 rfl ?_
      refine g_iload B dX4_tellWay_157 7 rfl ?_
      refine g_ixor B dX4_tellWay_159 ?_
      obtain ⟨x3, e4, h⟩ := lt_e h
      refine g_topi e4 ?_
      refine g_istore (lv' := [(5, .int x3), (0, .ref (ad 12 0)), (1, .ref (ad 1 0)), (2, .ref (ad 3 0)), (3, .ref (ad 20 k3)), (4, .int v4), (6, .int v6), (7, .int v7), (8, .int v8)]) B dX4_tellWay_160 (by decide) rfl ?_
      obtain ⟨x5, e6, h⟩ := lt_e h
      refine g_iinc (v := x5) (lv' := [(6, .int x5), (5, .int x3), (0, .ref (ad 12 0)), (1, .ref (ad 1 0)), (2, .ref (ad 3 0)), (3, .ref (ad 20 k3)), (4, .int v4), (7, .int v7), (8, .int v8)]) B dX4_tellWay_162 (k := 6) rfl (by rw [e6]; rfl) (by decide) rfl ?_
      refine g_goto B 63 dX4_tellWay_165 (by decide) ?_
      refine g_sub [2, 3, 4, 5, 6, 1, 0] rfl ?_
      exact hK63 _ _ _ _ _ h
    · have h := if_f h q2
      refine g_iload B dX4_tellWay_118 7 rfl ?_
      refine g_iload B dX4_tellWay_120 8 rfl ?_
      refine g_ishr B dX4_tellWay_122 ?_
      refine g_iconst (v := (1 : Int32)) B dX4_tellWay_123 (by decide) ?_
      refine g_iand B dX4_tellWay_124 ?_
      refine g_iconst (v := (1 : Int32)) B dX4_tellWay_125 (by decide) ?_
      refine g_icmp_ne B 149 dX4_tellWay_126 (by decide) (fun q7 => ?_) (fun q7 => ?_)
      · have h := if_f h q7
        obtain ⟨x8, e9, h⟩ := lt_e h
        refine g_iinc (v := x8) (lv' := [(8, .int x8), (0, .ref (ad 12 0)), (1, .ref (ad 1 0)), (2, .ref (ad 3 0)), (3, .ref (ad 20 k3)), (4, .int v4), (5, .int v5), (6, .int v6), (7, .int v7)]) B dX4_tellWay_149 (k := 8) rfl (by rw [e9]; rfl) (by decide) rfl ?_
        refine g_goto B 109 dX4_tellWay_152 (by decide) ?_
        refine g_sub [1, 2, 3, 4, 5, 6, 7, 8, 0] rfl ?_
        exact ih _ _ _ _ _ _ _ h
      · have h := if_t h q7
        refine g_aload_n B dX4_tellWay_129 0 rfl rfl ?_
        refine g_aload_n B dX4_tellWay_130 2 rfl rfl ?_
        refine g_aload_n B dX4_tellWay_131 0 rfl rfl ?_
        refine gt_X4_5 B m1 kf_X4_21 dX4_tellWay_132 ?_
        refine g_iload B dX4_tellWay_135 8 rfl ?_
        obtain ⟨m10, h⟩ := ck_e h
        obtain ⟨b11, h⟩ := ck_e h
        refine g_iald (n := 7) B m10 (fun _ => rfl) b11 dX4_tellWay_137 ?_
        obtain ⟨m12, h⟩ := ck_e h
        obtain ⟨b13, h⟩ := ck_e h
        refine g_aald (t0 := 6) (a := ad 7 ((gi S 13 3 v8.toNatClampNeg).toNatClampNeg)) B rfl rfl m12 rfl b13 rfl dX4_tellWay_138 ?_
        refine g_aload_n B dX4_tellWay_139 1 rfl rfl ?_
        refine g_iload B dX4_tellWay_140 6 rfl ?_
        obtain ⟨m14, h⟩ := ck_e h
        obtain ⟨b15, h⟩ := ck_e h
        refine g_aald (t0 := 4) (a := ad 4 (v6.toNatClampNeg)) B rfl rfl m14 rfl b15 rfl dX4_tellWay_142 ?_
        refine g_aload_n B dX4_tellWay_143 3 rfl rfl ?_
        refine g_iload B dX4_tellWay_144 4 rfl ?_
        obtain ⟨r16, S17, e18, h⟩ := ob_e h
        refine g_cvv (rest := []) B (c_X4_tellOrder hA hZ N _ _ _ _ _ _ _ e18) mf_X4_tellOrder km_X4_133 ⟨by decide, by decide⟩ ⟨rfl, rfl⟩ m1 rfl rfl rfl rfl (Nat.le_of_ble_eq_true rfl) ⟨Nat.zero_le _, Nat.zero_le _⟩ dX4_tellWay_146 ?_
        obtain ⟨x19, e20, h⟩ := lt_e h
        refine g_iinc (v := x19) (lv' := [(8, .int x19), (0, .ref (ad 12 0)), (1, .ref (ad 1 0)), (2, .ref (ad 3 0)), (3, .ref (ad 20 k3)), (4, .int v4), (5, .int v5), (6, .int v6), (7, .int v7)]) B dX4_tellWay_149 (k := 8) rfl (by rw [e20]; rfl) (by decide) rfl ?_
        refine g_goto B 109 dX4_tellWay_152 (by decide) ?_
        refine g_sub [1, 2, 3, 4, 5, 6, 7, 8, 0] rfl ?_
        exact ih _ _ _ _ _ _ _ h
def f_X4_tellWay_63 (cs : List (Nat × Nat)) (N : Nat)  : Nat → Nat → Int32 → Int32 → Int32 → HS → Option (Unit × HS)
  | 0, _, _, _, _, _ => none
  | n + 1, k3, v4, v5, v6, S =>
    if v6 < 0 then (
      some ((), S))
    else (
      ck (mc cs 12 0) (
      ck (mc cs 18 0) (
      ck (inb v6 4) (
      ck (mc cs 19 (v6.toNatClampNeg)) (
      ck (inb v5 128) (
      lt_ ((gi S 19 (v6.toNatClampNeg) v5.toNatClampNeg)) (fun x7 =>
      ck (mc cs 14 0) (
      lt_ (ui S 14 0 0 v4) (fun S10 =>
      ck (mc cs 1 0) (
      ck (inb v6 4) (
      ck (mc cs 4 (v6.toNatClampNeg)) (
      ck (mc cs 5 (v6.toNatClampNeg)) (
      ck (inb v4 52) (
      lt_ (ui S10 14 0 1 (gi S10 5 (v6.toNatClampNeg) v4.toNatClampNeg)) (fun S17 =>
      f_X4_tellWay_109 cs N (f_X4_tellWay_63 cs N n) N k3 v4 v5 v6 x7 (0 : Int32) S17)))))))))))))))
set_option maxHeartbeats 4000000 in
set_option maxRecDepth 100000 in
theorem b_X4_tellWay_63 {p : Program} {l : Launch} {e : Env} {s : State} {m : MethodId} {args : Array Value} {below : List Frame} {meth : Method} {c : Code} {D : va_G} {cy : Nat → ClassId} {cs : List (Nat × Nat)} {ad : Nat → Nat → Nat} {Zp : State → Prop} {r : Unit} {Z : HS} (B : Bd p s m args meth c D cy cs ad Zp cX4_tellWay 9 RX4 none) (N : Nat)  : ∀ (n : Nat) (k3 : Nat) (v4 : Int32) (v5 : Int32) (v6 : Int32) (S : HS), f_X4_tellWay_63 cs N n k3 v4 v5 v6 S = some (r, Z) → GW p l e rm_X4_tellWay s m args below meth c (QM below args s D cy cs ad (none) Z) D cy cs ad 0 0 9 63 [(0, .ref (ad 12 0)), (1, .ref (ad 1 0)), (2, .ref (ad 3 0)), (3, .ref (ad 20 k3)), (4, .int v4), (5, .int v5), (6, .int v6)] [] S := by
  have hA := B.2.2.2.2.2.2.1
  have hZ := B.2.2.2.2.2.2.2.2.2.2
  intro n
  induction n with
  | zero => intro k3 v4 v5 v6 S h; cases h
  | succ n ih =>
    intro k3 v4 v5 v6 S h
    rw [f_X4_tellWay_63] at h
    refine g_iload B dX4_tellWay_63 6 rfl ?_
    refine g_if_lt B 168 dX4_tellWay_65 (by decide) (fun q1 => ?_) (fun q1 => ?_)
    · have h := if_t h q1
      obtain ⟨-, rfl⟩ := some_e h
      exact g_vret B dX4_tellWay_168
    · have h := if_f h q1
      refine g_aload_n B dX4_tellWay_68 0 rfl rfl ?_
      obtain ⟨m2, h⟩ := ck_e h
      refine gt_X4_14 B m2 kf_X4_53 dX4_tellWay_69 ?_
      refine g_iload B dX4_tellWay_72 6 rfl ?_
      obtain ⟨m3, h⟩ := ck_e h
      obtain ⟨b4, h⟩ := ck_e h
      refine g_aald (t0 := 7) (a := ad 19 (v6.toNatClampNeg)) B rfl rfl m3 rfl b4 rfl dX4_tellWay_74 ?_
      refine g_iload B dX4_tellWay_75 5 rfl ?_
      obtain ⟨m5, h⟩ := ck_e h
      obtain ⟨b6, h⟩ := ck_e h
      refine g_iald (n := 128) B m5 (fun _ => rfl) b6 dX4_tellWay_77 ?_
      obtain ⟨x7, e8, h⟩ := lt_e h
      refine g_topi e8 ?_
      refine g_istore (lv' := [(7, .int x7), (0, .ref (ad 12 0)), (1, .ref (ad 1 0)), (2, .ref (ad 3 0)), (3, .ref (ad 20 k3)), (4, .int v4), (5, .int v5), (6, .int v6)]) B dX4_tellWay_78 (by decide) rfl ?_
      refine g_aload_n B dX4_tellWay_80 1 rfl rfl ?_
      refine gt_X4_7 B m2 kf_X4_27 dX4_tellWay_81 ?_
      refine g_iload B dX4_tellWay_84 5 rfl ?_
      obtain ⟨m9, h⟩ := ck_e h
      obtain ⟨S10, e11, h⟩ := lt_e h
      refine pt_X0_0 B m9 kf_X4_100 e11 dX4_tellWay_86 ?_
      refine g_aload_n B dX4_tellWay_89 1 rfl rfl ?_
      refine gt_X4_7 B m2 kf_X4_27 dX4_tellWay_90 ?_
      refine g_aload_n B dX4_tellWay_93 2 rfl rfl ?_
      refine g_iload B dX4_tellWay_94 7 rfl ?_
      obtain ⟨m12, h⟩ := ck_e h
      obtain ⟨b13, h⟩ := ck_e h
      refine g_aald (t0 := 4) (a := ad 4 (v6.toNatClampNeg)) B rfl rfl m12 rfl b13 rfl dX4_tellWay_96 ?_
      obtain ⟨m14, h⟩ := ck_e h
      refine gt_X2_1 B m14 kf_X4_88 dX4_tellWay_97 ?_
      refine g_iload B dX4_tellWay_100 5 rfl ?_
      obtain ⟨m15, h⟩ := ck_e h
      obtain ⟨b16, h⟩ := ck_e h
      refine g_iald (n := 52) B m15 (fun _ => rfl) b16 dX4_tellWay_102 ?_
      obtain ⟨S17, e18, h⟩ := lt_e h
      refine pt_X0_1 B m9 kf_X4_103 e18 dX4_tellWay_103 ?_
      refine g_iconst (v := (0 : Int32)) B dX4_tellWay_106 (by decide) ?_
      refine g_istore (lv' := [(8, .int (0 : Int32)), (7, .int x7), (0, .ref (ad 12 0)), (1, .ref (ad 1 0)), (2, .ref (ad 3 0)), (3, .ref (ad 20 k3)), (4, .int v4), (5, .int v5), (6, .int v6)]) B dX4_tellWay_107 (by decide) rfl ?_
      refine g_sub [2, 3, 4, 5, 6, 7, 8, 1, 0] rfl ?_
      exact b_X4_tellWay_109 B N _ ih N _ _ _ _ _ _ _ h
def f_X4_tellWay_13 (cs : List (Nat × Nat)) (N : Nat)  : Nat → Nat → Int32 → Int32 → HS → Option (Unit × HS)
  | 0, _, _, _, _ => none
  | n + 1, k3, v4, v5, S =>
    if (7 : Int32) ≤ v5 then (
      ck (mc cs 12 0) (
      lt_ ((((1 : Int32) <<< ((gi S 12 0 6) &&& 31)) - (1 : Int32))) (fun x3 =>
      f_X4_tellWay_63 cs N N k3 v4 x3 (3 : Int32) S)))
    else (
      ck (mc cs 12 0) (
      ck (mc cs 13 0) (
      ck (inb v5 7) (
      lt_ (ui S 13 0 v5.toNatClampNeg (-1 : Int32)) (fun S8 =>
      ck (mc cs 13 1) (
      ck (inb v5 7) (
      lt_ (ui S8 13 1 v5.toNatClampNeg (-1 : Int32)) (fun S12 =>
      ck (mc cs 13 2) (
      ck (inb v5 7) (
      lt_ (ui S12 13 2 v5.toNatClampNeg (0 : Int32)) (fun S16 =>
      lt_ (v5 + (1 : Int32)) (fun x18 =>
      f_X4_tellWay_13 cs N n k3 v4 x18 S16))))))))))))
set_option maxHeartbeats 4000000 in
set_option maxRecDepth 100000 in
theorem b_X4_tellWay_13 {p : Program} {l : Launch} {e : Env} {s : State} {m : MethodId} {args : Array Value} {below : List Frame} {meth : Method} {c : Code} {D : va_G} {cy : Nat → ClassId} {cs : List (Nat × Nat)} {ad : Nat → Nat → Nat} {Zp : State → Prop} {r : Unit} {Z : HS} (B : Bd p s m args meth c D cy cs ad Zp cX4_tellWay 9 RX4 none) (N : Nat)  : ∀ (n : Nat) (k3 : Nat) (v4 : Int32) (v5 : Int32) (S : HS), f_X4_tellWay_13 cs N n k3 v4 v5 S = some (r, Z) → GW p l e rm_X4_tellWay s m args below meth c (QM below args s D cy cs ad (none) Z) D cy cs ad 0 0 9 13 [(0, .ref (ad 12 0)), (1, .ref (ad 1 0)), (2, .ref (ad 3 0)), (3, .ref (ad 20 k3)), (4, .int v4), (5, .int v5)] [] S := by
  have hA := B.2.2.2.2.2.2.1
  have hZ := B.2.2.2.2.2.2.2.2.2.2
  intro n
  induction n with
  | zero => intro k3 v4 v5 S h; cases h
  | succ n ih =>
    intro k3 v4 v5 S h
    rw [f_X4_tellWay_13] at h
    refine g_iload B dX4_tellWay_13 5 rfl ?_
    refine g_bipush (v := (7 : Int32)) B dX4_tellWay_15 (by decide) ?_
    refine g_icmp_ge B 50 dX4_tellWay_17 (by decide) (fun q1 => ?_) (fun q1 => ?_)
    · have h := if_t h q1
      refine g_iconst (v := (1 : Int32)) B dX4_tellWay_50 (by decide) ?_
      refine g_aload_n B dX4_tellWay_51 0 rfl rfl ?_
      obtain ⟨m2, h⟩ := ck_e h
      refine gt_X4_6 B m2 kf_X4_60 dX4_tellWay_52 ?_
      refine g_ishl B dX4_tellWay_55 ?_
      refine g_iconst (v := (1 : Int32)) B dX4_tellWay_56 (by decide) ?_
      refine g_isub B dX4_tellWay_57 ?_
      obtain ⟨x3, e4, h⟩ := lt_e h
      refine g_topi e4 ?_
      refine g_istore (lv' := [(5, .int x3), (0, .ref (ad 12 0)), (1, .ref (ad 1 0)), (2, .ref (ad 3 0)), (3, .ref (ad 20 k3)), (4, .int v4)]) B dX4_tellWay_58 (by decide) rfl ?_
      refine g_iconst (v := (3 : Int32)) B dX4_tellWay_60 (by decide) ?_
      refine g_istore (lv' := [(6, .int (3 : Int32)), (5, .int x3), (0, .ref (ad 12 0)), (1, .ref (ad 1 0)), (2, .ref (ad 3 0)), (3, .ref (ad 20 k3)), (4, .int v4)]) B dX4_tellWay_61 (by decide) rfl ?_
      refine g_sub [2, 3, 4, 5, 6, 1, 0] rfl ?_
      exact b_X4_tellWay_63 B N N _ _ _ _ _ h
    · have h := if_f h q1
      refine g_aload_n B dX4_tellWay_20 0 rfl rfl ?_
      obtain ⟨m5, h⟩ := ck_e h
      refine gt_X4_2 B m5 kf_X4_9 dX4_tellWay_21 ?_
      refine g_iload B dX4_tellWay_24 5 rfl ?_
      refine g_iconst (v := (-1 : Int32)) B dX4_tellWay_26 (by decide) ?_
      obtain ⟨m6, h⟩ := ck_e h
      obtain ⟨b7, h⟩ := ck_e h
      obtain ⟨S8, e9, h⟩ := lt_e h
      refine g_iast (n := 7) B m6 b7 (fun _ => rfl) e9 dX4_tellWay_27 ?_
      refine g_aload_n B dX4_tellWay_28 0 rfl rfl ?_
      refine gt_X4_3 B m5 kf_X4_15 dX4_tellWay_29 ?_
      refine g_iload B dX4_tellWay_32 5 rfl ?_
      refine g_iconst (v := (-1 : Int32)) B dX4_tellWay_34 (by decide) ?_
      obtain ⟨m10, h⟩ := ck_e h
      obtain ⟨b11, h⟩ := ck_e h
      obtain ⟨S12, e13, h⟩ := lt_e h
      refine g_iast (n := 7) B m10 b11 (fun _ => rfl) e13 dX4_tellWay_35 ?_
      refine g_aload_n B dX4_tellWay_36 0 rfl rfl ?_
      refine gt_X4_4 B m5 kf_X4_18 dX4_tellWay_37 ?_
      refine g_iload B dX4_tellWay_40 5 rfl ?_
      refine g_iconst (v := (0 : Int32)) B dX4_tellWay_42 (by decide) ?_
      obtain ⟨m14, h⟩ := ck_e h
      obtain ⟨b15, h⟩ := ck_e h
      obtain ⟨S16, e17, h⟩ := lt_e h
      refine g_iast (n := 7) B m14 b15 (fun _ => rfl) e17 dX4_tellWay_43 ?_
      obtain ⟨x18, e19, h⟩ := lt_e h
      refine g_iinc (v := x18) (lv' := [(5, .int x18), (0, .ref (ad 12 0)), (1, .ref (ad 1 0)), (2, .ref (ad 3 0)), (3, .ref (ad 20 k3)), (4, .int v4)]) B dX4_tellWay_44 (k := 5) rfl (by rw [e19]; rfl) (by decide) rfl ?_
      refine g_goto B 13 dX4_tellWay_47 (by decide) ?_
      refine g_sub [1, 2, 3, 4, 5, 0] rfl ?_
      exact ih _ _ _ _ h
def f_X4_tellWay (cs : List (Nat × Nat)) (N : Nat) (a3 : Nat) (a4 : Int32) (S : HS) : Option (Unit × HS) :=
  ck (mc cs 12 0) (
  lt_ (ui S 12 0 0 (0 : Int32)) (fun S2 =>
  lt_ (ui S2 12 0 1 (0 : Int32)) (fun S4 =>
  f_X4_tellWay_13 cs N N a3 a4 (0 : Int32) S4)))
set_option maxHeartbeats 4000000 in
set_option maxRecDepth 100000 in
theorem c_X4_tellWay {l : Launch} {D : va_G} {cy : Nat → ClassId} {cs : List (Nat × Nat)} {ad : Nat → Nat → Nat} {Zp : State → Prop} (hA : AdOk cs ad) (hZ : ZOk cs ad Zp) (N : Nat) (a3 : Nat) (a4 : Int32) (S : HS) (r : Unit) (Z : HS) (h : f_X4_tellWay cs N a3 a4 S = some (r, Z)) : Ctr Zp l yX4_tellWay cX4_tellWay 9 none rm_X4_tellWay D cy cs ad [.ref (ad 12 0), .ref (ad 1 0), .ref (ad 3 0), .ref (ad 20 a3), .int a4] S (none) Z := by
  unfold f_X4_tellWay at h
  refine Ctr.of hA hZ RX4 (plainFor_of_name (by decide)) rfl [(0, .ref (ad 12 0)), (1, .ref (ad 1 0)), (2, .ref (ad 3 0)), (3, .ref (ad 20 a3)), (4, .int a4)] rfl (Nat.le_of_ble_eq_true rfl) (fun p e s m below meth c B => ?_)
  refine g_aload_n B dX4_tellWay_0 0 rfl rfl ?_
  refine g_iconst (v := (0 : Int32)) B dX4_tellWay_1 (by decide) ?_
  obtain ⟨m1, h⟩ := ck_e h
  obtain ⟨S2, e3, h⟩ := lt_e h
  refine pt_X4_0 B m1 kf_X4_128 e3 dX4_tellWay_2 ?_
  refine g_aload_n B dX4_tellWay_5 0 rfl rfl ?_
  refine g_iconst (v := (0 : Int32)) B dX4_tellWay_6 (by decide) ?_
  obtain ⟨S4, e5, h⟩ := lt_e h
  refine pt_X4_1 B m1 kf_X4_131 e5 dX4_tellWay_7 ?_
  refine g_iconst (v := (0 : Int32)) B dX4_tellWay_10 (by decide) ?_
  refine g_istore (lv' := [(5, .int (0 : Int32)), (0, .ref (ad 12 0)), (1, .ref (ad 1 0)), (2, .ref (ad 3 0)), (3, .ref (ad 20 a3)), (4, .int a4)]) B dX4_tellWay_11 (by decide) rfl ?_
  refine g_sub [1, 2, 3, 4, 5, 0] rfl ?_
  exact b_X4_tellWay_13 B N N _ _ _ _ h

def rm_X7_readToken : Room := { frames := 6, cells := 0, slots := 0, locals := 127 }
def f_X7_readToken (cs : List (Nat × Nat)) (N : Nat)  (S : HS) : Option (Unit × HS) :=
  ck (mc cs 9 0) (
  ob (f_X7_skipBlanks cs N  S) (fun r2 S3 =>
  lt_ (ui S3 9 0 2 (gi S3 9 0 5)) (fun S5 =>
  if (gi S5 9 0 5) < (gi S5 9 0 0) then (
    ck (mc cs 10 0) (
    ck (inb (gi S5 9 0 5) 500) (
    ob (f_X7_isLetter cs N (gi S5 10 0 (gi S5 9 0 5).toNatClampNeg) S5) (fun r10 S11 =>
    if r10 = 0 then (
      ck (inb (gi S11 9 0 5) 500) (
      ob (f_X7_isDigit cs N (gi S11 10 0 (gi S11 9 0 5).toNatClampNeg) S11) (fun r15 S16 =>
      if r15 = 0 then (
        ck (inb (gi S16 9 0 5) 500) (
        if (gi S16 10 0 (gi S16 9 0 5).toNatClampNeg) = (59 : Int32) then (
          lt_ (ui S16 9 0 1 (2 : Int32)) (fun S25 =>
          lt_ (ui S25 9 0 5 ((gi S25 9 0 5) + (1 : Int32))) (fun S27 =>
          some ((), S27))))
        else (
          lt_ (ui S16 9 0 1 (0 : Int32)) (fun S21 =>
          lt_ (ui S21 9 0 5 ((gi S21 9 0 5) + (1 : Int32))) (fun S23 =>
          some ((), S23))))))
      else (
        ob (f_X7_readNumber cs N  S16) (fun r29 S30 =>
        some ((), S30))))))
    else (
      ob (f_X7_skipLetters cs N  S11) (fun r32 S33 =>
      ob (f_X7_keyword cs N  S33) (fun r35 S36 =>
      lt_ (ui S36 9 0 1 r35) (fun S38 =>
      some ((), S38)))))))))
  else (
    lt_ (ui S5 9 0 1 (1 : Int32)) (fun S40 =>
    some ((), S40))))))
set_option maxHeartbeats 4000000 in
set_option maxRecDepth 100000 in
theorem c_X7_readToken {l : Launch} {D : va_G} {cy : Nat → ClassId} {cs : List (Nat × Nat)} {ad : Nat → Nat → Nat} (hA : AdOk cs ad) (N : Nat)  (S : HS) (r : Unit) (Z : HS) (h : f_X7_readToken cs N  S = some (r, Z)) : Ctr (gZ cs ad) l yX7_readToken cX7_readToken 1 none rm_X7_readToken D cy cs ad [.ref (ad 9 0)] S (none) Z := by
  have hZ := gZ_ok cs ad
  unfold f_X7_readToken at h
  refine Ctr.of hA (gZ_ok cs ad) RX7 (plainFor_of_name (by decide)) rfl [(0, .ref (ad 9 0))] rfl (Nat.le_of_ble_eq_true rfl) (fun p e s m below meth c B => ?_)
  refine g_aload_n B dX7_readToken_0 0 rfl rfl ?_
  obtain ⟨m1, h⟩ := ck_e h
  obtain ⟨r2, S3, e4, h⟩ := ob_e h
  refine g_cvv (rest := []) B (c_X7_skipBlanks hA hZ N  _ _ _ e4) mf_X7_skipBlanks km_X7_25 ⟨by decide, by decide⟩ ⟨rfl, rfl⟩ m1 rfl rfl rfl rfl (Nat.le_of_ble_eq_true rfl) ⟨Nat.zero_le _, Nat.zero_le _⟩ dX7_readToken_1 ?_
  refine g_aload_n B dX7_readToken_4 0 rfl rfl ?_
  refine g_aload_n B dX7_readToken_5 0 rfl rfl ?_
  refine gt_X7_5 B m1 kf_X7_19 dX7_readToken_6 ?_
  obtain ⟨S5, e6, h⟩ := lt_e h
  refine pt_X7_2 B m1 kf_X7_28 e6 dX7_readToken_9 ?_
  refine g_aload_n B dX7_readToken_12 0 rfl rfl ?_
  refine gt_X7_5 B m1 kf_X7_19 dX7_readToken_13 ?_
  refine g_aload_n B dX7_readToken_16 0 rfl rfl ?_
  refine gt_X7_0 B m1 kf_X7_15 dX7_readToken_17 ?_
  refine g_icmp_lt B 31 dX7_readToken_20 (by decide) (fun q7 => ?_) (fun q7 => ?_)
  · have h := if_t h q7
    refine g_aload_n B dX7_readToken_31 0 rfl rfl ?_
    refine gt_X7_4 B m1 kf_X7_9 dX7_readToken_32 ?_
    refine g_aload_n B dX7_readToken_35 0 rfl rfl ?_
    refine gt_X7_5 B m1 kf_X7_19 dX7_readToken_36 ?_
    obtain ⟨m8, h⟩ := ck_e h
    obtain ⟨b9, h⟩ := ck_e h
    refine g_bald (n := 500) B m8 (fun _ => rfl) b9 dX7_readToken_39 ?_
    obtain ⟨r10, S11, e12, h⟩ := ob_e h
    refine g_csi (rest := []) B (c_X7_isLetter hA hZ N _ _ _ _ e12) mf_X7_isLetter km_X7_34 ⟨by decide, by decide⟩ ⟨rfl, rfl⟩ rfl rfl (Nat.le_of_ble_eq_true rfl) ⟨Nat.zero_le _, Nat.zero_le _⟩ dX7_readToken_40 ?_
    refine g_if_eq B 61 dX7_readToken_43 (by decide) (fun q13 => ?_) (fun q13 => ?_)
    · have h := if_t h q13
      refine g_aload_n B dX7_readToken_61 0 rfl rfl ?_
      refine gt_X7_4 B m1 kf_X7_9 dX7_readToken_62 ?_
      refine g_aload_n B dX7_readToken_65 0 rfl rfl ?_
      refine gt_X7_5 B m1 kf_X7_19 dX7_readToken_66 ?_
      obtain ⟨b14, h⟩ := ck_e h
      refine g_bald (n := 500) B m8 (fun _ => rfl) b14 dX7_readToken_69 ?_
      obtain ⟨r15, S16, e17, h⟩ := ob_e h
      refine g_csi (rest := []) B (c_X7_isDigit hA hZ N _ _ _ _ e17) mf_X7_isDigit km_X7_45 ⟨by decide, by decide⟩ ⟨rfl, rfl⟩ rfl rfl (Nat.le_of_ble_eq_true rfl) ⟨Nat.zero_le _, Nat.zero_le _⟩ dX7_readToken_70 ?_
      refine g_if_eq B 83 dX7_readToken_73 (by decide) (fun q18 => ?_) (fun q18 => ?_)
      · have h := if_t h q18
        refine g_aload_n B dX7_readToken_83 0 rfl rfl ?_
        refine g_aload_n B dX7_readToken_84 0 rfl rfl ?_
        refine gt_X7_4 B m1 kf_X7_9 dX7_readToken_85 ?_
        refine g_aload_n B dX7_readToken_88 0 rfl rfl ?_
        refine gt_X7_5 B m1 kf_X7_19 dX7_readToken_89 ?_
        obtain ⟨b19, h⟩ := ck_e h
        refine g_bald (n := 500) B m8 (fun _ => rfl) b19 dX7_readToken_92 ?_
        refine g_bipush (v := (59 : Int32)) B dX7_readToken_93 (by decide) ?_
        refine g_icmp_ne B 102 dX7_readToken_95 (by decide) (fun q20 => ?_) (fun q20 => ?_)
        · have h := if_f h q20
          refine g_iconst (v := (0 : Int32)) B dX7_readToken_102 (by decide) ?_
          obtain ⟨S21, e22, h⟩ := lt_e h
          refine pt_X7_1 B m1 kf_X7_31 e22 dX7_readToken_103 ?_
          refine g_aload_n B dX7_readToken_106 0 rfl rfl ?_
          refine g_dup B dX7_readToken_107 rfl ?_
          refine gt_X7_5 B m1 kf_X7_19 dX7_readToken_108 ?_
          refine g_iconst (v := (1 : Int32)) B dX7_readToken_111 (by decide) ?_
          refine g_iadd B dX7_readToken_112 ?_
          obtain ⟨S23, e24, h⟩ := lt_e h
          refine pt_X7_5 B m1 kf_X7_19 e24 dX7_readToken_113 ?_
          obtain ⟨-, rfl⟩ := some_e h
          exact g_vret B dX7_readToken_116
        · have h := if_t h q20
          refine g_iconst (v := (2 : Int32)) B dX7_readToken_98 (by decide) ?_
          refine g_goto B 103 dX7_readToken_99 (by decide) ?_
          obtain ⟨S25, e26, h⟩ := lt_e h
          refine pt_X7_1 B m1 kf_X7_31 e26 dX7_readToken_103 ?_
          refine g_aload_n B dX7_readToken_106 0 rfl rfl ?_
          refine g_dup B dX7_readToken_107 rfl ?_
          refine gt_X7_5 B m1 kf_X7_19 dX7_readToken_108 ?_
          refine g_iconst (v := (1 : Int32)) B dX7_readToken_111 (by decide) ?_
          refine g_iadd B dX7_readToken_112 ?_
          obtain ⟨S27, e28, h⟩ := lt_e h
          refine pt_X7_5 B m1 kf_X7_19 e28 dX7_readToken_113 ?_
          obtain ⟨-, rfl⟩ := some_e h
          exact g_vret B dX7_readToken_116
      · have h := if_f h q18
        refine g_aload_n B dX7_readToken_76 0 rfl rfl ?_
        obtain ⟨r29, S30, e31, h⟩ := ob_e h
        refine g_cvv (rest := []) B (c_X7_readNumber hA hZ N  _ _ _ e31) mf_X7_readNumber km_X7_48 ⟨by decide, by decide⟩ ⟨rfl, rfl⟩ m1 rfl rfl rfl rfl (Nat.le_of_ble_eq_true rfl) ⟨Nat.zero_le _, Nat.zero_le _⟩ dX7_readToken_77 ?_
        refine g_goto B 116 dX7_readToken_80 (by decide) ?_
        obtain ⟨-, rfl⟩ := some_e h
        exact g_vret B dX7_readToken_116
    · have h := if_f h q13
      refine g_aload_n B dX7_readToken_46 0 rfl rfl ?_
      obtain ⟨r32, S33, e34, h⟩ := ob_e h
      refine g_cvv (rest := []) B (c_X7_skipLetters hA hZ N  _ _ _ e34) mf_X7_skipLetters km_X7_38 ⟨by decide, by decide⟩ ⟨rfl, rfl⟩ m1 rfl rfl rfl rfl (Nat.le_of_ble_eq_true rfl) ⟨Nat.zero_le _, Nat.zero_le _⟩ dX7_readToken_47 ?_
      refine g_aload_n B dX7_readToken_50 0 rfl rfl ?_
      refine g_aload_n B dX7_readToken_51 0 rfl rfl ?_
      obtain ⟨r35, S36, e37, h⟩ := ob_e h
      refine g_cvi (rest := [.ref (ad 9 0)]) B (c_X7_keyword hA N  _ _ _ e37) mf_X7_keyword km_X7_41 ⟨by decide, by decide⟩ ⟨rfl, rfl⟩ m1 rfl rfl rfl rfl (Nat.le_of_ble_eq_true rfl) ⟨Nat.zero_le _, Nat.zero_le _⟩ dX7_readToken_52 ?_
      obtain ⟨S38, e39, h⟩ := lt_e h
      refine pt_X7_1 B m1 kf_X7_31 e39 dX7_readToken_55 ?_
      refine g_goto B 116 dX7_readToken_58 (by decide) ?_
      obtain ⟨-, rfl⟩ := some_e h
      exact g_vret B dX7_readToken_116
  · have h := if_f h q7
    refine g_aload_n B dX7_readToken_23 0 rfl rfl ?_
    refine g_iconst (v := (1 : Int32)) B dX7_readToken_24 (by decide) ?_
    obtain ⟨S40, e41, h⟩ := lt_e h
    refine pt_X7_1 B m1 kf_X7_31 e41 dX7_readToken_25 ?_
    refine g_goto B 116 dX7_readToken_28 (by decide) ?_
    obtain ⟨-, rfl⟩ := some_e h
    exact g_vret B dX7_readToken_116

def rm_X8_hours : Room := { frames := 2, cells := 0, slots := 0, locals := 43 }
def f_X8_hours (cs : List (Nat × Nat)) (N : Nat) (a1 : Int32) (a2 : Int32) (a3 : Int32) (S : HS) : Option (Int32 × HS) :=
  ob (f_X8_isFamily cs N a1 S) (fun r1 S2 =>
  if r1 = 0 then (
    some ((0 : Int32), S2))
  else (
    ck (mc cs 0 0) (
    ob (f_X8_isWeekToCome cs N a2 S2) (fun r6 S7 =>
    if r6 = 0 then (
      some ((0 : Int32), S7))
    else (
      ob (f_X8_isWithin cs N a3 (0 : Int32) (99 : Int32) S7) (fun r10 S11 =>
      if r10 = 0 then (
        some ((0 : Int32), S11))
      else (
        ck (mc cs 1 0) (
        ck (inb a1 4) (
        ck (mc cs 4 (a1.toNatClampNeg)) (
        ck (mc cs 5 (a1.toNatClampNeg)) (
        ck (inb a2 52) (
        lt_ (ui S11 5 (a1.toNatClampNeg) a2.toNatClampNeg a3) (fun S19 =>
        lt_ (ui S19 0 0 7 (0 : Int32)) (fun S21 =>
        some ((1 : Int32), S21)))))))))))))))
set_option maxHeartbeats 4000000 in
set_option maxRecDepth 100000 in
theorem c_X8_hours {l : Launch} {D : va_G} {cy : Nat → ClassId} {cs : List (Nat × Nat)} {ad : Nat → Nat → Nat} {Zp : State → Prop} (hA : AdOk cs ad) (hZ : ZOk cs ad Zp) (N : Nat) (a1 : Int32) (a2 : Int32) (a3 : Int32) (S : HS) (r : Int32) (Z : HS) (h : f_X8_hours cs N a1 a2 a3 S = some (r, Z)) : Ctr Zp l yX8_hours cX8_hours 4 (some .boolean) rm_X8_hours D cy cs ad [.ref (ad 0 0), .int a1, .int a2, .int a3] S (some (.int r)) Z := by
  unfold f_X8_hours at h
  refine Ctr.of hA hZ RX8 (plainFor_of_name (by decide)) rfl [(0, .ref (ad 0 0)), (1, .int a1), (2, .int a2), (3, .int a3)] rfl (Nat.le_of_ble_eq_true rfl) (fun p e s m below meth c B => ?_)
  refine g_iload_n B dX8_hours_0 1 rfl rfl ?_
  obtain ⟨r1, S2, e3, h⟩ := ob_e h
  refine g_csi (rest := []) B (c_X8_isFamily hA hZ N _ _ _ _ e3) mf_X8_isFamily km_X8_56 ⟨by decide, by decide⟩ ⟨rfl, rfl⟩ rfl rfl (Nat.le_of_ble_eq_true rfl) ⟨Nat.zero_le _, Nat.zero_le _⟩ dX8_hours_1 ?_
  refine g_if_eq B 25 dX8_hours_4 (by decide) (fun q4 => ?_) (fun q4 => ?_)
  · have h := if_t h q4
    refine g_iconst (v := (0 : Int32)) B dX8_hours_25 (by decide) ?_
    obtain ⟨rfl, rfl⟩ := some_e h
    exact g_zret B (by decide) dX8_hours_26
  · have h := if_f h q4
    refine g_aload_n B dX8_hours_7 0 rfl rfl ?_
    refine g_iload_n B dX8_hours_8 2 rfl rfl ?_
    obtain ⟨m5, h⟩ := ck_e h
    obtain ⟨r6, S7, e8, h⟩ := ob_e h
    refine g_cvi (rest := []) B (c_X8_isWeekToCome hA hZ N _ _ _ _ e8) mf_X8_isWeekToCome km_X8_60 ⟨by decide, by decide⟩ ⟨rfl, rfl⟩ m5 rfl rfl rfl rfl (Nat.le_of_ble_eq_true rfl) ⟨Nat.zero_le _, Nat.zero_le _⟩ dX8_hours_9 ?_
    refine g_if_eq B 25 dX8_hours_12 (by decide) (fun q9 => ?_) (fun q9 => ?_)
    · have h := if_t h q9
      refine g_iconst (v := (0 : Int32)) B dX8_hours_25 (by decide) ?_
      obtain ⟨rfl, rfl⟩ := some_e h
      exact g_zret B (by decide) dX8_hours_26
    · have h := if_f h q9
      refine g_iload_n B dX8_hours_15 3 rfl rfl ?_
      refine g_iconst (v := (0 : Int32)) B dX8_hours_16 (by decide) ?_
      refine g_bipush (v := (99 : Int32)) B dX8_hours_17 (by decide) ?_
      obtain ⟨r10, S11, e12, h⟩ := ob_e h
      refine g_csi (rest := []) B (c_X8_isWithin hA hZ N _ _ _ _ _ _ e12) mf_X8_isWithin km_X8_63 ⟨by decide, by decide⟩ ⟨rfl, rfl⟩ rfl rfl (Nat.le_of_ble_eq_true rfl) ⟨Nat.zero_le _, Nat.zero_le _⟩ dX8_hours_19 ?_
      refine g_if_ne B 27 dX8_hours_22 (by decide) (fun q13 => ?_) (fun q13 => ?_)
      · have h := if_f h q13
        refine g_aload_n B dX8_hours_27 0 rfl rfl ?_
        refine gt_X8_0 B m5 kf_X8_11 dX8_hours_28 ?_
        refine g_iload_n B dX8_hours_31 1 rfl rfl ?_
        obtain ⟨m14, h⟩ := ck_e h
        obtain ⟨b15, h⟩ := ck_e h
        refine g_aald (t0 := 4) (a := ad 4 (a1.toNatClampNeg)) B rfl rfl m14 rfl b15 rfl dX8_hours_32 ?_
        obtain ⟨m16, h⟩ := ck_e h
        refine gt_X2_1 B m16 kf_X8_67 dX8_hours_33 ?_
        refine g_iload_n B dX8_hours_36 2 rfl rfl ?_
        refine g_iload_n B dX8_hours_37 3 rfl rfl ?_
        obtain ⟨m17, h⟩ := ck_e h
        obtain ⟨b18, h⟩ := ck_e h
        obtain ⟨S19, e20, h⟩ := lt_e h
        refine g_iast (n := 52) B m17 b18 (fun _ => rfl) e20 dX8_hours_38 ?_
        refine g_aload_n B dX8_hours_39 0 rfl rfl ?_
        refine g_iconst (v := (0 : Int32)) B dX8_hours_40 (by decide) ?_
        obtain ⟨S21, e22, h⟩ := lt_e h
        refine pt_X8_7 B m5 kf_X8_71 (by decide) e22 dX8_hours_41 ?_
        refine g_iconst (v := (1 : Int32)) B dX8_hours_44 (by decide) ?_
        obtain ⟨rfl, rfl⟩ := some_e h
        exact g_zret B (by decide) dX8_hours_45
      · have h := if_t h q13
        refine g_iconst (v := (0 : Int32)) B dX8_hours_25 (by decide) ?_
        obtain ⟨rfl, rfl⟩ := some_e h
        exact g_zret B (by decide) dX8_hours_26

def rm_X8_order : Room := { frames := 2, cells := 0, slots := 0, locals := 44 }
def f_X8_order (cs : List (Nat × Nat)) (N : Nat) (a1 : Int32) (a2 : Int32) (a3 : Int32) (a4 : Int32) (S : HS) : Option (Int32 × HS) :=
  ob (f_X8_isPattern cs N a1 S) (fun r1 S2 =>
  if r1 = 0 then (
    some ((-1 : Int32), S2))
  else (
    ob (f_X8_isWithin cs N a2 (1 : Int32) (20 : Int32) S2) (fun r5 S6 =>
    if r5 = 0 then (
      some ((-1 : Int32), S6))
    else (
      ck (mc cs 0 0) (
      ob (f_X8_isWeekToCome cs N a3 S6) (fun r10 S11 =>
      if r10 = 0 then (
        some ((-1 : Int32), S11))
      else (
        ob (f_X8_isWithin cs N a4 (1 : Int32) (9999 : Int32) S11) (fun r14 S15 =>
        if r14 = 0 then (
          some ((-1 : Int32), S15))
        else (
          if (gi S15 0 0 9) < (7 : Int32) then (
            ck (mc cs 3 0) (
            ck (inb (gi S15 0 0 9) 7) (
            ck (mc cs 7 ((gi S15 0 0 9).toNatClampNeg)) (
            lt_ (ui S15 7 ((gi S15 0 0 9).toNatClampNeg) 1 a1) (fun S22 =>
            lt_ (ui S22 7 ((gi S15 0 0 9).toNatClampNeg) 2 a2) (fun S24 =>
            lt_ (ui S24 7 ((gi S15 0 0 9).toNatClampNeg) 3 a3) (fun S26 =>
            lt_ (ui S26 7 ((gi S15 0 0 9).toNatClampNeg) 4 a4) (fun S28 =>
            ck (mc cs 2 0) (
            ck (inb a1 6) (
            ob (f_X6_reckonAnew cs N ((gi S15 0 0 9).toNatClampNeg) (a1.toNatClampNeg) S28) (fun r32 S33 =>
            lt_ (ui S33 0 0 9 ((gi S33 0 0 9) + (1 : Int32))) (fun S35 =>
            lt_ (ui S35 0 0 7 (0 : Int32)) (fun S37 =>
            some ((gi S37 7 ((gi S15 0 0 9).toNatClampNeg) 0), S37))))))))))))))
          else (
            some ((-1 : Int32), S15)))))))))))
set_option maxHeartbeats 4000000 in
set_option maxRecDepth 100000 in
theorem c_X8_order {l : Launch} {D : va_G} {cy : Nat → ClassId} {cs : List (Nat × Nat)} {ad : Nat → Nat → Nat} {Zp : State → Prop} (hA : AdOk cs ad) (hZ : ZOk cs ad Zp) (N : Nat) (a1 : Int32) (a2 : Int32) (a3 : Int32) (a4 : Int32) (S : HS) (r : Int32) (Z : HS) (h : f_X8_order cs N a1 a2 a3 a4 S = some (r, Z)) : Ctr Zp l yX8_order cX8_order 6 (some .int) rm_X8_order D cy cs ad [.ref (ad 0 0), .int a1, .int a2, .int a3, .int a4] S (some (.int r)) Z := by
  unfold f_X8_order at h
  refine Ctr.of hA hZ RX8 (plainFor_of_name (by decide)) rfl [(0, .ref (ad 0 0)), (1, .int a1), (2, .int a2), (3, .int a3), (4, .int a4)] rfl (Nat.le_of_ble_eq_true rfl) (fun p e s m below meth c B => ?_)
  refine g_iload_n B dX8_order_0 1 rfl rfl ?_
  obtain ⟨r1, S2, e3, h⟩ := ob_e h
  refine g_csi (rest := []) B (c_X8_isPattern hA hZ N _ _ _ _ e3) mf_X8_isPattern km_X8_75 ⟨by decide, by decide⟩ ⟨rfl, rfl⟩ rfl rfl (Nat.le_of_ble_eq_true rfl) ⟨Nat.zero_le _, Nat.zero_le _⟩ dX8_order_1 ?_
  refine g_if_eq B 46 dX8_order_4 (by decide) (fun q4 => ?_) (fun q4 => ?_)
  · have h := if_t h q4
    refine g_iconst (v := (-1 : Int32)) B dX8_order_46 (by decide) ?_
    obtain ⟨rfl, rfl⟩ := some_e h
    exact g_iret B dX8_order_47
  · have h := if_f h q4
    refine g_iload_n B dX8_order_7 2 rfl rfl ?_
    refine g_iconst (v := (1 : Int32)) B dX8_order_8 (by decide) ?_
    refine g_bipush (v := (20 : Int32)) B dX8_order_9 (by decide) ?_
    obtain ⟨r5, S6, e7, h⟩ := ob_e h
    refine g_csi (rest := []) B (c_X8_isWithin hA hZ N _ _ _ _ _ _ e7) mf_X8_isWithin km_X8_63 ⟨by decide, by decide⟩ ⟨rfl, rfl⟩ rfl rfl (Nat.le_of_ble_eq_true rfl) ⟨Nat.zero_le _, Nat.zero_le _⟩ dX8_order_11 ?_
    refine g_if_eq B 46 dX8_order_14 (by decide) (fun q8 => ?_) (fun q8 => ?_)
    · have h := if_t h q8
      refine g_iconst (v := (-1 : Int32)) B dX8_order_46 (by decide) ?_
      obtain ⟨rfl, rfl⟩ := some_e h
      exact g_iret B dX8_order_47
    · have h := if_f h q8
      refine g_aload_n B dX8_order_17 0 rfl rfl ?_
      refine g_iload_n B dX8_order_18 3 rfl rfl ?_
      obtain ⟨m9, h⟩ := ck_e h
      obtain ⟨r10, S11, e12, h⟩ := ob_e h
      refine g_cvi (rest := []) B (c_X8_isWeekToCome hA hZ N _ _ _ _ e12) mf_X8_isWeekToCome km_X8_60 ⟨by decide, by decide⟩ ⟨rfl, rfl⟩ m9 rfl rfl rfl rfl (Nat.le_of_ble_eq_true rfl) ⟨Nat.zero_le _, Nat.zero_le _⟩ dX8_order_19 ?_
      refine g_if_eq B 46 dX8_order_22 (by decide) (fun q13 => ?_) (fun q13 => ?_)
      · have h := if_t h q13
        refine g_iconst (v := (-1 : Int32)) B dX8_order_46 (by decide) ?_
        obtain ⟨rfl, rfl⟩ := some_e h
        exact g_iret B dX8_order_47
      · have h := if_f h q13
        refine g_iload B dX8_order_25 4 rfl ?_
        refine g_iconst (v := (1 : Int32)) B dX8_order_27 (by decide) ?_
        refine g_sipush (v := (9999 : Int32)) B dX8_order_28 (by decide) ?_
        obtain ⟨r14, S15, e16, h⟩ := ob_e h
        refine g_csi (rest := []) B (c_X8_isWithin hA hZ N _ _ _ _ _ _ e16) mf_X8_isWithin km_X8_63 ⟨by decide, by decide⟩ ⟨rfl, rfl⟩ rfl rfl (Nat.le_of_ble_eq_true rfl) ⟨Nat.zero_le _, Nat.zero_le _⟩ dX8_order_31 ?_
        refine g_if_eq B 46 dX8_order_34 (by decide) (fun q17 => ?_) (fun q17 => ?_)
        · have h := if_t h q17
          refine g_iconst (v := (-1 : Int32)) B dX8_order_46 (by decide) ?_
          obtain ⟨rfl, rfl⟩ := some_e h
          exact g_iret B dX8_order_47
        · have h := if_f h q17
          refine g_aload_n B dX8_order_37 0 rfl rfl ?_
          refine gt_X8_9 B m9 kf_X8_87 dX8_order_38 ?_
          refine g_bipush (v := (7 : Int32)) B dX8_order_41 (by decide) ?_
          refine g_icmp_lt B 48 dX8_order_43 (by decide) (fun q18 => ?_) (fun q18 => ?_)
          · have h := if_t h q18
            refine g_aload_n B dX8_order_48 0 rfl rfl ?_
            refine gt_X8_2 B m9 kf_X8_23 dX8_order_49 ?_
            refine g_aload_n B dX8_order_52 0 rfl rfl ?_
            refine gt_X8_9 B m9 kf_X8_87 dX8_order_53 ?_
            obtain ⟨m19, h⟩ := ck_e h
            obtain ⟨b20, h⟩ := ck_e h
            refine g_aald (t0 := 6) (a := ad 7 ((gi S15 0 0 9).toNatClampNeg)) B rfl rfl m19 rfl b20 rfl dX8_order_56 ?_
            refine g_astore (lv' := [(5, .ref (ad 7 ((gi S15 0 0 9).toNatClampNeg))), (0, .ref (ad 0 0)), (1, .int a1), (2, .int a2), (3, .int a3), (4, .int a4)]) B dX8_order_57 (by decide) rfl ?_
            refine g_aload B dX8_order_59 0 rfl ?_
            refine g_iload_n B dX8_order_61 2 rfl rfl ?_
            obtain ⟨m21, h⟩ := ck_e h
            obtain ⟨S22, e23, h⟩ := lt_e h
            refine pt_X6_1 B m21 kf_X8_93 e23 dX8_order_62 ?_
            refine g_aload B dX8_order_65 0 rfl ?_
            refine g_iload_n B dX8_order_67 3 rfl rfl ?_
            obtain ⟨S24, e25, h⟩ := lt_e h
            refine pt_X6_2 B m21 kf_X8_102 e25 dX8_order_68 ?_
            refine g_aload B dX8_order_71 0 rfl ?_
            refine g_iload_n B dX8_order_73 4 rfl rfl ?_
            obtain ⟨S26, e27, h⟩ := lt_e h
            refine pt_X6_3 B m21 kf_X8_105 e27 dX8_order_74 ?_
            refine g_aload B dX8_order_77 0 rfl ?_
            refine g_iload B dX8_order_79 5 rfl ?_
            obtain ⟨S28, e29, h⟩ := lt_e h
            refine pt_X6_4 B m21 kf_X8_108 e29 dX8_order_81 ?_
            refine g_aload B dX8_order_84 0 rfl ?_
            refine g_aload_n B dX8_order_86 1 rfl rfl ?_
            refine gt_X8_1 B m9 kf_X8_17 dX8_order_87 ?_
            refine g_iload_n B dX8_order_90 2 rfl rfl ?_
            obtain ⟨m30, h⟩ := ck_e h
            obtain ⟨b31, h⟩ := ck_e h
            refine g_aald (t0 := 5) (a := ad 6 (a1.toNatClampNeg)) B rfl rfl m30 rfl b31 rfl dX8_order_91 ?_
            obtain ⟨r32, S33, e34, h⟩ := ob_e h
            refine g_cvv (rest := []) B (c_X6_reckonAnew hA hZ N _ _ _ _ _ e34) mf_X6_reckonAnew km_X8_96 ⟨by decide, by decide⟩ ⟨rfl, rfl⟩ m21 rfl rfl rfl rfl (Nat.le_of_ble_eq_true rfl) ⟨Nat.zero_le _, Nat.zero_le _⟩ dX8_order_92 ?_
            refine g_aload_n B dX8_order_95 1 rfl rfl ?_
            refine g_dup B dX8_order_96 rfl ?_
            refine gt_X8_9 B m9 kf_X8_87 dX8_order_97 ?_
            refine g_iconst (v := (1 : Int32)) B dX8_order_100 (by decide) ?_
            refine g_iadd B dX8_order_101 ?_
            obtain ⟨S35, e36, h⟩ := lt_e h
            refine pt_X8_9 B m9 kf_X8_87 e36 dX8_order_102 ?_
            refine g_aload_n B dX8_order_105 1 rfl rfl ?_
            refine g_iconst (v := (0 : Int32)) B dX8_order_106 (by decide) ?_
            obtain ⟨S37, e38, h⟩ := lt_e h
            refine pt_X8_7 B m9 kf_X8_71 (by decide) e38 dX8_order_107 ?_
            refine g_aload B dX8_order_110 0 rfl ?_
            refine gt_X6_0 B m21 kf_X8_111 dX8_order_112 ?_
            obtain ⟨rfl, rfl⟩ := some_e h
            exact g_iret B dX8_order_115
          · have h := if_f h q18
            refine g_iconst (v := (-1 : Int32)) B dX8_order_46 (by decide) ?_
            obtain ⟨rfl, rfl⟩ := some_e h
            exact g_iret B dX8_order_47

def rm_X1_readParts : Room := { frames := 7, cells := 0, slots := 0, locals := 147 }
def f_X1_readParts_111 (cs : List (Nat × Nat)) (N : Nat) (K4 : Nat → Int32 → Int32 → HS → Option (Int32 × HS)) (k1 : Nat) (v2 : Int32) (v3 : Int32) (S : HS) : Option (Int32 × HS) :=
  ck (mc cs 8 0) (
  ck (mc cs 9 0) (
  ob (f_X7_readToken cs N  S) (fun r3 S4 =>
  lt_ (v3 + (1 : Int32)) (fun x6 =>
  K4 k1 v2 x6 S4))))
set_option maxHeartbeats 4000000 in
set_option maxRecDepth 100000 in
theorem b_X1_readParts_111 {p : Program} {l : Launch} {e : Env} {s : State} {m : MethodId} {args : Array Value} {below : List Frame} {meth : Method} {c : Code} {D : va_G} {cy : Nat → ClassId} {cs : List (Nat × Nat)} {ad : Nat → Nat → Nat} {r : Int32} {Z : HS} (B : Bd p s m args meth c D cy cs ad (gZ cs ad) cX1_readParts 5 RX1 (some .boolean)) (N : Nat) (K4 : Nat → Int32 → Int32 → HS → Option (Int32 × HS)) (hK4 : ∀ (k1 : Nat) (v2 : Int32) (v3 : Int32) (S : HS), K4 k1 v2 v3 S = some (r, Z) → GW p l e rm_X1_readParts s m args below meth c (QM below args s D cy cs ad (some (.int r)) Z) D cy cs ad 0 0 5 4 [(0, .ref (ad 8 0)), (1, .ref (ad 40 k1)), (2, .int v2), (3, .int v3)] [] S) (k1 : Nat) (v2 : Int32) (v3 : Int32) (S : HS) (h : f_X1_readParts_111 cs N K4 k1 v2 v3 S = some (r, Z)) : GW p l e rm_X1_readParts s m args below meth c (QM below args s D cy cs ad (some (.int r)) Z) D cy cs ad 0 0 5 111 [(0, .ref (ad 8 0)), (1, .ref (ad 40 k1)), (2, .int v2), (3, .int v3)] [] S := by
  have hA := B.2.2.2.2.2.2.1
  have hZ := B.2.2.2.2.2.2.2.2.2.2
  unfold f_X1_readParts_111 at h
  refine g_aload_n B dX1_readParts_111 0 rfl rfl ?_
  obtain ⟨m1, h⟩ := ck_e h
  refine gt_X1_0 B m1 kf_X1_12 dX1_readParts_112 ?_
  obtain ⟨m2, h⟩ := ck_e h
  obtain ⟨r3, S4, e5, h⟩ := ob_e h
  refine g_cvv (rest := []) B (c_X7_readToken hA N  _ _ _ e5) mf_X7_readToken km_X1_51 ⟨by decide, by decide⟩ ⟨rfl, rfl⟩ m2 rfl rfl rfl rfl (Nat.le_of_ble_eq_true rfl) ⟨Nat.zero_le _, Nat.zero_le _⟩ dX1_readParts_115 ?_
  obtain ⟨x6, e7, h⟩ := lt_e h
  refine g_iinc (v := x6) (lv' := [(3, .int x6), (0, .ref (ad 8 0)), (1, .ref (ad 40 k1)), (2, .int v2)]) B dX1_readParts_118 (k := 3) rfl (by rw [e7]; rfl) (by decide) rfl ?_
  refine g_goto B 4 dX1_readParts_121 (by decide) ?_
  refine g_sub [1, 2, 3, 0] rfl ?_
  exact hK4 _ _ _ _ h
def f_X1_readParts_44 (cs : List (Nat × Nat)) (N : Nat) (K4 : Nat → Int32 → Int32 → HS → Option (Int32 × HS)) (k1 : Nat) (v2 : Int32) (v3 : Int32) (v4 : Int32) (t0 : Int32) (t1 : Int32) (S : HS) : Option (Int32 × HS) :=
  if t1 = t0 then (
    if v4 = 0 then (
      f_X1_readParts_111 cs N K4 k1 v2 v3 S)
    else (
      if (3 : Int32) ≤ v2 then (
        f_X1_readParts_111 cs N K4 k1 v2 v3 S)
      else (
        ck (mc cs 8 0) (
        ck (mc cs 9 0) (
        ck (decide (k1 < 5)) (
        ck (inb v3 (sLn k1)) (
        ob (f_X1_leastOf cs N (sVl k1 v3.toNatClampNeg) S) (fun r8 S9 =>
        ck (inb v3 (sLn k1)) (
        ob (f_X1_mostOf cs N (sVl k1 v3.toNatClampNeg) S9) (fun r12 S13 =>
        ob (f_X8_isWithin cs N (gi S 9 0 3) r8 r12 S13) (fun r15 S16 =>
        if r15 = 0 then (
          ob (f_X1_stopAt cs N (2 : Int32) S16) (fun r25 S26 =>
          ck (b01 r25) (
          some (r25, S26))))
        else (
          ck (mc cs 11 0) (
          ck (inb v2 3) (
          lt_ (ui S16 11 0 v2.toNatClampNeg (gi S16 9 0 3)) (fun S21 =>
          lt_ (v2 + (1 : Int32)) (fun x23 =>
          f_X1_readParts_111 cs N K4 k1 x23 v3 S21))))))))))))))))
  else (
    ck (mc cs 8 0) (
    ob (f_X1_stopAt cs N (1 : Int32) S) (fun r30 S31 =>
    ck (b01 r30) (
    some (r30, S31)))))
set_option maxHeartbeats 4000000 in
set_option maxRecDepth 100000 in
theorem b_X1_readParts_44 {p : Program} {l : Launch} {e : Env} {s : State} {m : MethodId} {args : Array Value} {below : List Frame} {meth : Method} {c : Code} {D : va_G} {cy : Nat → ClassId} {cs : List (Nat × Nat)} {ad : Nat → Nat → Nat} {r : Int32} {Z : HS} (B : Bd p s m args meth c D cy cs ad (gZ cs ad) cX1_readParts 5 RX1 (some .boolean)) (N : Nat) (K4 : Nat → Int32 → Int32 → HS → Option (Int32 × HS)) (hK4 : ∀ (k1 : Nat) (v2 : Int32) (v3 : Int32) (S : HS), K4 k1 v2 v3 S = some (r, Z) → GW p l e rm_X1_readParts s m args below meth c (QM below args s D cy cs ad (some (.int r)) Z) D cy cs ad 0 0 5 4 [(0, .ref (ad 8 0)), (1, .ref (ad 40 k1)), (2, .int v2), (3, .int v3)] [] S) (k1 : Nat) (v2 : Int32) (v3 : Int32) (v4 : Int32) (t0 : Int32) (t1 : Int32) (S : HS) (h : f_X1_readParts_44 cs N K4 k1 v2 v3 v4 t0 t1 S = some (r, Z)) : GW p l e rm_X1_readParts s m args below meth c (QM below args s D cy cs ad (some (.int r)) Z) D cy cs ad 0 0 5 44 [(0, .ref (ad 8 0)), (1, .ref (ad 40 k1)), (2, .int v2), (3, .int v3), (4, .int v4)] [.int t0, .int t1] S := by
  have hA := B.2.2.2.2.2.2.1
  have hZ := B.2.2.2.2.2.2.2.2.2.2
  unfold f_X1_readParts_44 at h
  refine g_icmp_eq B 53 dX1_readParts_44 (by decide) (fun q1 => ?_) (fun q1 => ?_)
  · have h := if_t h q1
    refine g_iload B dX1_readParts_53 4 rfl ?_
    refine g_if_eq B 111 dX1_readParts_55 (by decide) (fun q2 => ?_) (fun q2 => ?_)
    · have h := if_t h q2
      refine g_sub [0, 1, 2, 3] rfl ?_
      exact b_X1_readParts_111 B N _ hK4 _ _ _ _ h
    · have h := if_f h q2
      refine g_iload_n B dX1_readParts_58 2 rfl rfl ?_
      refine g_iconst (v := (3 : Int32)) B dX1_readParts_59 (by decide) ?_
      refine g_icmp_ge B 111 dX1_readParts_60 (by decide) (fun q3 => ?_) (fun q3 => ?_)
      · have h := if_t h q3
        refine g_sub [0, 1, 2, 3] rfl ?_
        exact b_X1_readParts_111 B N _ hK4 _ _ _ _ h
      · have h := if_f h q3
        refine g_aload_n B dX1_readParts_63 0 rfl rfl ?_
        obtain ⟨m4, h⟩ := ck_e h
        refine gt_X1_0 B m4 kf_X1_12 dX1_readParts_64 ?_
        obtain ⟨m5, h⟩ := ck_e h
        refine gt_X7_3 B m5 kf_X1_78 dX1_readParts_67 ?_
        refine g_aload_n B dX1_readParts_70 0 rfl rfl ?_
        refine g_aload_n B dX1_readParts_71 1 rfl rfl ?_
        refine g_iload_n B dX1_readParts_72 3 rfl rfl ?_
        obtain ⟨m6, h⟩ := ck_e h
        have m6 := of_decide_eq_true m6
        obtain ⟨b7, h⟩ := ck_e h
        refine g_sld B m6 b7 dX1_readParts_73 ?_
        obtain ⟨r8, S9, e10, h⟩ := ob_e h
        refine g_cvi (rest := [.int (gi S 9 0 3)]) B (c_X1_leastOf hA hZ N _ _ _ _ e10) mf_X1_leastOf km_X1_81 ⟨by decide, by decide⟩ ⟨rfl, rfl⟩ m4 rfl rfl rfl rfl (Nat.le_of_ble_eq_true rfl) ⟨Nat.zero_le _, Nat.zero_le _⟩ dX1_readParts_74 ?_
        refine g_aload_n B dX1_readParts_77 1 rfl rfl ?_
        refine g_iload_n B dX1_readParts_78 3 rfl rfl ?_
        obtain ⟨b11, h⟩ := ck_e h
        refine g_sld B m6 b11 dX1_readParts_79 ?_
        obtain ⟨r12, S13, e14, h⟩ := ob_e h
        refine g_csi (rest := [.int r8, .int (gi S 9 0 3)]) B (c_X1_mostOf hA hZ N _ _ _ _ e14) mf_X1_mostOf km_X1_85 ⟨by decide, by decide⟩ ⟨rfl, rfl⟩ rfl rfl (Nat.le_of_ble_eq_true rfl) ⟨Nat.zero_le _, Nat.zero_le _⟩ dX1_readParts_80 ?_
        obtain ⟨r15, S16, e17, h⟩ := ob_e h
        refine g_csni (rest := []) B (c_X8_isWithin hA hZ N _ _ _ _ _ _ e17) mf_X8_isWithin (by decide +kernel) ⟨by decide, by decide⟩ ⟨rfl, rfl⟩ rfl rfl (Nat.le_of_ble_eq_true rfl) ⟨Nat.zero_le _, Nat.zero_le _⟩ dX1_readParts_83 ?_
        refine g_if_ne B 95 dX1_readParts_86 (by decide) (fun q18 => ?_) (fun q18 => ?_)
        · have h := if_f h q18
          refine g_aload_n B dX1_readParts_95 0 rfl rfl ?_
          refine gt_X1_4 B m4 kf_X1_22 dX1_readParts_96 ?_
          refine g_iload_n B dX1_readParts_99 2 rfl rfl ?_
          refine g_aload_n B dX1_readParts_100 0 rfl rfl ?_
          refine gt_X1_0 B m4 kf_X1_12 dX1_readParts_101 ?_
          refine gt_X7_3 B m5 kf_X1_78 dX1_readParts_104 ?_
          obtain ⟨m19, h⟩ := ck_e h
          obtain ⟨b20, h⟩ := ck_e h
          obtain ⟨S21, e22, h⟩ := lt_e h
          refine g_iast (n := 3) B m19 b20 (fun _ => rfl) e22 dX1_readParts_107 ?_
          obtain ⟨x23, e24, h⟩ := lt_e h
          refine g_iinc (v := x23) (lv' := [(2, .int x23), (0, .ref (ad 8 0)), (1, .ref (ad 40 k1)), (3, .int v3), (4, .int v4)]) B dX1_readParts_108 (k := 2) rfl (by rw [e24]; rfl) (by decide) rfl ?_
          refine g_sub [1, 2, 0, 3] rfl ?_
          exact b_X1_readParts_111 B N _ hK4 _ _ _ _ h
        · have h := if_t h q18
          refine g_aload_n B dX1_readParts_89 0 rfl rfl ?_
          refine g_iconst (v := (2 : Int32)) B dX1_readParts_90 (by decide) ?_
          obtain ⟨r25, S26, e27, h⟩ := ob_e h
          refine g_cvi (rest := []) B (c_X1_stopAt hA hZ N _ _ _ _ e27) mf_X1_stopAt km_X1_47 ⟨by decide, by decide⟩ ⟨rfl, rfl⟩ m4 rfl rfl rfl rfl (Nat.le_of_ble_eq_true rfl) ⟨Nat.zero_le _, Nat.zero_le _⟩ dX1_readParts_91 ?_
          obtain ⟨b28, h⟩ := ck_e h
          obtain ⟨rfl, rfl⟩ := some_e h
          exact g_zret B b28 dX1_readParts_94
  · have h := if_f h q1
    refine g_aload_n B dX1_readParts_47 0 rfl rfl ?_
    refine g_iconst (v := (1 : Int32)) B dX1_readParts_48 (by decide) ?_
    obtain ⟨m29, h⟩ := ck_e h
    obtain ⟨r30, S31, e32, h⟩ := ob_e h
    refine g_cvi (rest := []) B (c_X1_stopAt hA hZ N _ _ _ _ e32) mf_X1_stopAt km_X1_47 ⟨by decide, by decide⟩ ⟨rfl, rfl⟩ m29 rfl rfl rfl rfl (Nat.le_of_ble_eq_true rfl) ⟨Nat.zero_le _, Nat.zero_le _⟩ dX1_readParts_49 ?_
    obtain ⟨b33, h⟩ := ck_e h
    obtain ⟨rfl, rfl⟩ := some_e h
    exact g_zret B b33 dX1_readParts_52
def f_X1_readParts_23 (cs : List (Nat × Nat)) (N : Nat) (K4 : Nat → Int32 → Int32 → HS → Option (Int32 × HS)) (k1 : Nat) (v2 : Int32) (v3 : Int32) (t0 : Int32) (S : HS) : Option (Int32 × HS) :=
  ck (mc cs 8 0) (
  ck (mc cs 9 0) (
  if t0 = 0 then (
    ck (decide (k1 < 5)) (
    ck (inb v3 (sLn k1)) (
    f_X1_readParts_44 cs N K4 k1 v2 v3 t0 (sVl k1 v3.toNatClampNeg) (gi S 9 0 1) S)))
  else (
    f_X1_readParts_44 cs N K4 k1 v2 v3 t0 (3 : Int32) (gi S 9 0 1) S)))
set_option maxHeartbeats 4000000 in
set_option maxRecDepth 100000 in
theorem b_X1_readParts_23 {p : Program} {l : Launch} {e : Env} {s : State} {m : MethodId} {args : Array Value} {below : List Frame} {meth : Method} {c : Code} {D : va_G} {cy : Nat → ClassId} {cs : List (Nat × Nat)} {ad : Nat → Nat → Nat} {r : Int32} {Z : HS} (B : Bd p s m args meth c D cy cs ad (gZ cs ad) cX1_readParts 5 RX1 (some .boolean)) (N : Nat) (K4 : Nat → Int32 → Int32 → HS → Option (Int32 × HS)) (hK4 : ∀ (k1 : Nat) (v2 : Int32) (v3 : Int32) (S : HS), K4 k1 v2 v3 S = some (r, Z) → GW p l e rm_X1_readParts s m args below meth c (QM below args s D cy cs ad (some (.int r)) Z) D cy cs ad 0 0 5 4 [(0, .ref (ad 8 0)), (1, .ref (ad 40 k1)), (2, .int v2), (3, .int v3)] [] S) (k1 : Nat) (v2 : Int32) (v3 : Int32) (t0 : Int32) (S : HS) (h : f_X1_readParts_23 cs N K4 k1 v2 v3 t0 S = some (r, Z)) : GW p l e rm_X1_readParts s m args below meth c (QM below args s D cy cs ad (some (.int r)) Z) D cy cs ad 0 0 5 23 [(0, .ref (ad 8 0)), (1, .ref (ad 40 k1)), (2, .int v2), (3, .int v3)] [.int t0] S := by
  have hA := B.2.2.2.2.2.2.1
  have hZ := B.2.2.2.2.2.2.2.2.2.2
  unfold f_X1_readParts_23 at h
  refine g_istore (lv' := [(4, .int t0), (0, .ref (ad 8 0)), (1, .ref (ad 40 k1)), (2, .int v2), (3, .int v3)]) B dX1_readParts_23 (by decide) rfl ?_
  refine g_aload_n B dX1_readParts_25 1 rfl rfl ?_
  obtain ⟨m1, h⟩ := ck_e h
  refine gt_X1_0 B m1 kf_X1_12 dX1_readParts_26 ?_
  obtain ⟨m2, h⟩ := ck_e h
  refine gt_X7_1 B m2 kf_X1_40 dX1_readParts_29 ?_
  refine g_iload B dX1_readParts_32 0 rfl ?_
  refine g_if_eq B 41 dX1_readParts_34 (by decide) (fun q3 => ?_) (fun q3 => ?_)
  · have h := if_t h q3
    refine g_aload_n B dX1_readParts_41 2 rfl rfl ?_
    refine g_iload_n B dX1_readParts_42 4 rfl rfl ?_
    obtain ⟨m4, h⟩ := ck_e h
    have m4 := of_decide_eq_true m4
    obtain ⟨b5, h⟩ := ck_e h
    refine g_sld B m4 b5 dX1_readParts_43 ?_
    refine g_sub [1, 2, 3, 4, 0] rfl ?_
    exact b_X1_readParts_44 B N _ hK4 _ _ _ _ _ _ _ h
  · have h := if_f h q3
    refine g_iconst (v := (3 : Int32)) B dX1_readParts_37 (by decide) ?_
    refine g_goto B 44 dX1_readParts_38 (by decide) ?_
    refine g_sub [1, 2, 3, 4, 0] rfl ?_
    exact b_X1_readParts_44 B N _ hK4 _ _ _ _ _ _ _ h
def f_X1_readParts_4 (cs : List (Nat × Nat)) (N : Nat)  : Nat → Nat → Int32 → Int32 → HS → Option (Int32 × HS)
  | 0, _, _, _, _ => none
  | n + 1, k1, v2, v3, S =>
    ck (decide (k1 < 5)) (
    if (nI (sLn k1)) ≤ v3 then (
      some ((1 : Int32), S))
    else (
      ck (inb v3 (sLn k1)) (
      if (sVl k1 v3.toNatClampNeg) < (12 : Int32) then (
        f_X1_readParts_23 cs N (f_X1_readParts_4 cs N n) k1 v2 v3 (0 : Int32) S)
      else (
        f_X1_readParts_23 cs N (f_X1_readParts_4 cs N n) k1 v2 v3 (1 : Int32) S))))
set_option maxHeartbeats 4000000 in
set_option maxRecDepth 100000 in
theorem b_X1_readParts_4 {p : Program} {l : Launch} {e : Env} {s : State} {m : MethodId} {args : Array Value} {below : List Frame} {meth : Method} {c : Code} {D : va_G} {cy : Nat → ClassId} {cs : List (Nat × Nat)} {ad : Nat → Nat → Nat} {r : Int32} {Z : HS} (B : Bd p s m args meth c D cy cs ad (gZ cs ad) cX1_readParts 5 RX1 (some .boolean)) (N : Nat)  : ∀ (n : Nat) (k1 : Nat) (v2 : Int32) (v3 : Int32) (S : HS), f_X1_readParts_4 cs N n k1 v2 v3 S = some (r, Z) → GW p l e rm_X1_readParts s m args below meth c (QM below args s D cy cs ad (some (.int r)) Z) D cy cs ad 0 0 5 4 [(0, .ref (ad 8 0)), (1, .ref (ad 40 k1)), (2, .int v2), (3, .int v3)] [] S := by
  have hA := B.2.2.2.2.2.2.1
  have hZ := B.2.2.2.2.2.2.2.2.2.2
  intro n
  induction n with
  | zero => intro k1 v2 v3 S h; cases h
  | succ n ih =>
    intro k1 v2 v3 S h
    rw [f_X1_readParts_4] at h
    refine g_iload_n B dX1_readParts_4 3 rfl rfl ?_
    refine g_aload_n B dX1_readParts_5 1 rfl rfl ?_
    obtain ⟨m1, h⟩ := ck_e h
    have m1 := of_decide_eq_true m1
    refine g_slen B m1 dX1_readParts_6 ?_
    refine g_icmp_ge B 124 dX1_readParts_7 (by decide) (fun q2 => ?_) (fun q2 => ?_)
    · have h := if_t h q2
      refine g_iconst (v := (1 : Int32)) B dX1_readParts_124 (by decide) ?_
      obtain ⟨rfl, rfl⟩ := some_e h
      exact g_zret B (by decide) dX1_readParts_125
    · have h := if_f h q2
      refine g_aload_n B dX1_readParts_10 1 rfl rfl ?_
      refine g_iload_n B dX1_readParts_11 3 rfl rfl ?_
      obtain ⟨b3, h⟩ := ck_e h
      refine g_sld B m1 b3 dX1_readParts_12 ?_
      refine g_bipush (v := (12 : Int32)) B dX1_readParts_13 (by decide) ?_
      refine g_icmp_lt B 22 dX1_readParts_15 (by decide) (fun q4 => ?_) (fun q4 => ?_)
      · have h := if_t h q4
        refine g_iconst (v := (0 : Int32)) B dX1_readParts_22 (by decide) ?_
        exact b_X1_readParts_23 B N _ ih _ _ _ _ _ h
      · have h := if_f h q4
        refine g_iconst (v := (1 : Int32)) B dX1_readParts_18 (by decide) ?_
        refine g_goto B 23 dX1_readParts_19 (by decide) ?_
        exact b_X1_readParts_23 B N _ ih _ _ _ _ _ h
def f_X1_readParts (cs : List (Nat × Nat)) (N : Nat) (a1 : Nat) (S : HS) : Option (Int32 × HS) :=
  f_X1_readParts_4 cs N N a1 (0 : Int32) (0 : Int32) S
set_option maxHeartbeats 4000000 in
set_option maxRecDepth 100000 in
theorem c_X1_readParts {l : Launch} {D : va_G} {cy : Nat → ClassId} {cs : List (Nat × Nat)} {ad : Nat → Nat → Nat} (hA : AdOk cs ad) (N : Nat) (a1 : Nat) (S : HS) (r : Int32) (Z : HS) (h : f_X1_readParts cs N a1 S = some (r, Z)) : Ctr (gZ cs ad) l yX1_readParts cX1_readParts 5 (some .boolean) rm_X1_readParts D cy cs ad [.ref (ad 8 0), .ref (ad 40 a1)] S (some (.int r)) Z := by
  have hZ := gZ_ok cs ad
  unfold f_X1_readParts at h
  refine Ctr.of hA (gZ_ok cs ad) RX1 (plainFor_of_name (by decide)) rfl [(0, .ref (ad 8 0)), (1, .ref (ad 40 a1))] rfl (Nat.le_of_ble_eq_true rfl) (fun p e s m below meth c B => ?_)
  refine g_iconst (v := (0 : Int32)) B dX1_readParts_0 (by decide) ?_
  refine g_istore_n (lv' := [(2, .int (0 : Int32)), (0, .ref (ad 8 0)), (1, .ref (ad 40 a1))]) B dX1_readParts_1 rfl (by decide) rfl ?_
  refine g_iconst (v := (0 : Int32)) B dX1_readParts_2 (by decide) ?_
  refine g_istore_n (lv' := [(3, .int (0 : Int32)), (2, .int (0 : Int32)), (0, .ref (ad 8 0)), (1, .ref (ad 40 a1))]) B dX1_readParts_3 rfl (by decide) rfl ?_
  refine g_sub [2, 3, 1, 0] rfl ?_
  exact b_X1_readParts_4 B N N _ _ _ _ h

def rm_X4_find : Room := { frames := 4, cells := 0, slots := 0, locals := 104 }
def f_X4_find_56 (cs : List (Nat × Nat)) (N : Nat) (K37 : Nat → Int32 → Int32 → HS → Option (Unit × HS)) : Nat → Nat → Int32 → Int32 → Int32 → HS → Option (Unit × HS)
  | 0, _, _, _, _, _ => none
  | n + 1, k4, v5, v6, v7, S =>
    ck (mc cs 12 0) (
    if (gi S 12 0 6) ≤ v7 then (
      ob (f_X4_shareAlsoWith cs N v6 S) (fun r3 S4 =>
      lt_ (v6 + (1 : Int32)) (fun x6 =>
      K37 k4 v5 x6 S4)))
    else (
      ck (mc cs 13 3) (
      ck (inb v7 7) (
      ck (mc cs 3 0) (
      ck (inb (gi S 13 3 v7.toNatClampNeg) 7) (
      ck (mc cs 1 0) (
      ck (inb v6 4) (
      ob (f_X4_addToSets cs N v7 ((gi S 13 3 v7.toNatClampNeg).toNatClampNeg) (v6.toNatClampNeg) k4 S) (fun r14 S15 =>
      lt_ (v7 + (1 : Int32)) (fun x17 =>
      f_X4_find_56 cs N K37 n k4 v5 v6 x17 S15))))))))))
set_option maxHeartbeats 4000000 in
set_option maxRecDepth 100000 in
theorem b_X4_find_56 {p : Program} {l : Launch} {e : Env} {s : State} {m : MethodId} {args : Array Value} {below : List Frame} {meth : Method} {c : Code} {D : va_G} {cy : Nat → ClassId} {cs : List (Nat × Nat)} {ad : Nat → Nat → Nat} {r : Unit} {Z : HS} (B : Bd p s m args meth c D cy cs ad (gZ cs ad) cX4_find 8 RX4 none) (N : Nat) (K37 : Nat → Int32 → Int32 → HS → Option (Unit × HS)) (hK37 : ∀ (k4 : Nat) (v5 : Int32) (v6 : Int32) (S : HS), K37 k4 v5 v6 S = some (r, Z) → GW p l e rm_X4_find s m args below meth c (QM below args s D cy cs ad (none) Z) D cy cs ad 0 0 8 37 [(0, .ref (ad 12 0)), (1, .ref (ad 1 0)), (2, .ref (ad 3 0)), (4, .ref (ad 20 k4)), (5, .int v5), (6, .int v6)] [] S) : ∀ (n : Nat) (k4 : Nat) (v5 : Int32) (v6 : Int32) (v7 : Int32) (S : HS), f_X4_find_56 cs N K37 n k4 v5 v6 v7 S = some (r, Z) → GW p l e rm_X4_find s m args below meth c (QM below args s D cy cs ad (none) Z) D cy cs ad 0 0 8 56 [(0, .ref (ad 12 0)), (1, .ref (ad 1 0)), (2, .ref (ad 3 0)), (4, .ref (ad 20 k4)), (5, .int v5), (6, .int v6), (7, .int v7)] [] S := by
  have hA := B.2.2.2.2.2.2.1
  have hZ := B.2.2.2.2.2.2.2.2.2.2
  intro n
  induction n with
  | zero => intro k4 v5 v6 v7 S h; cases h
  | succ n ih =>
    intro k4 v5 v6 v7 S h
    rw [f_X4_find_56] at h
    refine g_iload B dX4_find_56 6 rfl ?_
    refine g_aload_n B dX4_find_58 0 rfl rfl ?_
    obtain ⟨m1, h⟩ := ck_e h
    refine gt_X4_6 B m1 kf_X4_60 dX4_find_59 ?_
    refine g_icmp_ge B 92 dX4_find_62 (by decide) (fun q2 => ?_) (fun q2 => ?_)
    · have h := if_t h q2
      refine g_aload_n B dX4_find_92 0 rfl rfl ?_
      refine g_iload B dX4_find_93 5 rfl ?_
      obtain ⟨r3, S4, e5, h⟩ := ob_e h
      refine g_cvv (rest := []) B (c_X4_shareAlsoWith hA hZ N _ _ _ _ e5) mf_X4_shareAlsoWith km_X4_72 ⟨by decide, by decide⟩ ⟨rfl, rfl⟩ m1 rfl rfl rfl rfl (Nat.le_of_ble_eq_true rfl) ⟨Nat.zero_le _, Nat.zero_le _⟩ dX4_find_95 ?_
      obtain ⟨x6, e7, h⟩ := lt_e h
      refine g_iinc (v := x6) (lv' := [(6, .int x6), (0, .ref (ad 12 0)), (1, .ref (ad 1 0)), (2, .ref (ad 3 0)), (4, .ref (ad 20 k4)), (5, .int v5), (7, .int v7)]) B dX4_find_98 (k := 5) rfl (by rw [e7]; rfl) (by decide) rfl ?_
      refine g_goto B 37 dX4_find_101 (by decide) ?_
      refine g_sub [1, 2, 3, 4, 5, 0] rfl ?_
      exact hK37 _ _ _ _ h
    · have h := if_f h q2
      refine g_aload_n B dX4_find_65 0 rfl rfl ?_
      refine g_iload B dX4_find_66 6 rfl ?_
      refine g_aload_n B dX4_find_68 2 rfl rfl ?_
      refine g_aload_n B dX4_find_69 0 rfl rfl ?_
      refine gt_X4_5 B m1 kf_X4_21 dX4_find_70 ?_
      refine g_iload B dX4_find_73 6 rfl ?_
      obtain ⟨m8, h⟩ := ck_e h
      obtain ⟨b9, h⟩ := ck_e h
      refine g_iald (n := 7) B m8 (fun _ => rfl) b9 dX4_find_75 ?_
      obtain ⟨m10, h⟩ := ck_e h
      obtain ⟨b11, h⟩ := ck_e h
      refine g_aald (t0 := 6) (a := ad 7 ((gi S 13 3 v7.toNatClampNeg).toNatClampNeg)) B rfl rfl m10 rfl b11 rfl dX4_find_76 ?_
      refine g_aload_n B dX4_find_77 1 rfl rfl ?_
      refine g_iload B dX4_find_78 5 rfl ?_
      obtain ⟨m12, h⟩ := ck_e h
      obtain ⟨b13, h⟩ := ck_e h
      refine g_aald (t0 := 4) (a := ad 4 (v6.toNatClampNeg)) B rfl rfl m12 rfl b13 rfl dX4_find_80 ?_
      refine g_aload B dX4_find_81 3 rfl ?_
      obtain ⟨r14, S15, e16, h⟩ := ob_e h
      refine g_cvv (rest := []) B (c_X4_addToSets hA N _ _ _ _ _ _ _ e16) mf_X4_addToSets km_X4_68 ⟨by decide, by decide⟩ ⟨rfl, rfl⟩ m1 rfl rfl rfl rfl (Nat.le_of_ble_eq_true rfl) ⟨Nat.zero_le _, Nat.zero_le _⟩ dX4_find_83 ?_
      obtain ⟨x17, e18, h⟩ := lt_e h
      refine g_iinc (v := x17) (lv' := [(7, .int x17), (0, .ref (ad 12 0)), (1, .ref (ad 1 0)), (2, .ref (ad 3 0)), (4, .ref (ad 20 k4)), (5, .int v5), (6, .int v6)]) B dX4_find_86 (k := 6) rfl (by rw [e18]; rfl) (by decide) rfl ?_
      refine g_goto B 56 dX4_find_89 (by decide) ?_
      refine g_sub [1, 2, 3, 4, 5, 6, 0] rfl ?_
      exact ih _ _ _ _ _ h
def f_X4_find_37 (cs : List (Nat × Nat)) (N : Nat)  : Nat → Nat → Int32 → Int32 → HS → Option (Unit × HS)
  | 0, _, _, _, _ => none
  | n + 1, k4, v5, v6, S =>
    if (4 : Int32) ≤ v6 then (
      ck (mc cs 12 0) (
      ob (f_X4_tellWay cs N k4 v5 S) (fun r3 S4 =>
      some ((), S4))))
    else (
      ck (mc cs 1 0) (
      ck (inb v6 4) (
      ck (mc cs 12 0) (
      ob (f_X4_startAt cs N (v6.toNatClampNeg) v5 S) (fun r9 S10 =>
      f_X4_find_56 cs N (f_X4_find_37 cs N n) N k4 v5 v6 (0 : Int32) S10)))))
set_option maxHeartbeats 4000000 in
set_option maxRecDepth 100000 in
theorem b_X4_find_37 {p : Program} {l : Launch} {e : Env} {s : State} {m : MethodId} {args : Array Value} {below : List Frame} {meth : Method} {c : Code} {D : va_G} {cy : Nat → ClassId} {cs : List (Nat × Nat)} {ad : Nat → Nat → Nat} {r : Unit} {Z : HS} (B : Bd p s m args meth c D cy cs ad (gZ cs ad) cX4_find 8 RX4 none) (N : Nat)  : ∀ (n : Nat) (k4 : Nat) (v5 : Int32) (v6 : Int32) (S : HS), f_X4_find_37 cs N n k4 v5 v6 S = some (r, Z) → GW p l e rm_X4_find s m args below meth c (QM below args s D cy cs ad (none) Z) D cy cs ad 0 0 8 37 [(0, .ref (ad 12 0)), (1, .ref (ad 1 0)), (2, .ref (ad 3 0)), (4, .ref (ad 20 k4)), (5, .int v5), (6, .int v6)] [] S := by
  have hA := B.2.2.2.2.2.2.1
  have hZ := B.2.2.2.2.2.2.2.2.2.2
  intro n
  induction n with
  | zero => intro k4 v5 v6 S h; cases h
  | succ n ih =>
    intro k4 v5 v6 S h
    rw [f_X4_find_37] at h
    refine g_iload B dX4_find_37 5 rfl ?_
    refine g_iconst (v := (4 : Int32)) B dX4_find_39 (by decide) ?_
    refine g_icmp_ge B 104 dX4_find_40 (by decide) (fun q1 => ?_) (fun q1 => ?_)
    · have h := if_t h q1
      refine g_aload_n B dX4_find_104 0 rfl rfl ?_
      refine g_aload_n B dX4_find_105 1 rfl rfl ?_
      refine g_aload_n B dX4_find_106 2 rfl rfl ?_
      refine g_aload B dX4_find_107 3 rfl ?_
      refine g_iload B dX4_find_109 4 rfl ?_
      obtain ⟨m2, h⟩ := ck_e h
      obtain ⟨r3, S4, e5, h⟩ := ob_e h
      refine g_cvv (rest := []) B (c_X4_tellWay hA hZ N _ _ _ _ _ e5) mf_X4_tellWay km_X4_76 ⟨by decide, by decide⟩ ⟨rfl, rfl⟩ m2 rfl rfl rfl rfl (Nat.le_of_ble_eq_true rfl) ⟨Nat.zero_le _, Nat.zero_le _⟩ dX4_find_111 ?_
      obtain ⟨-, rfl⟩ := some_e h
      exact g_vret B dX4_find_114
    · have h := if_f h q1
      refine g_aload_n B dX4_find_43 0 rfl rfl ?_
      refine g_aload_n B dX4_find_44 1 rfl rfl ?_
      refine g_iload B dX4_find_45 5 rfl ?_
      obtain ⟨m6, h⟩ := ck_e h
      obtain ⟨b7, h⟩ := ck_e h
      refine g_aald (t0 := 4) (a := ad 4 (v6.toNatClampNeg)) B rfl rfl m6 rfl b7 rfl dX4_find_47 ?_
      refine g_iload B dX4_find_48 4 rfl ?_
      obtain ⟨m8, h⟩ := ck_e h
      obtain ⟨r9, S10, e11, h⟩ := ob_e h
      refine g_cvv (rest := []) B (c_X4_startAt hA hZ N _ _ _ _ _ e11) mf_X4_startAt km_X4_64 ⟨by decide, by decide⟩ ⟨rfl, rfl⟩ m8 rfl rfl rfl rfl (Nat.le_of_ble_eq_true rfl) ⟨Nat.zero_le _, Nat.zero_le _⟩ dX4_find_50 ?_
      refine g_iconst (v := (0 : Int32)) B dX4_find_53 (by decide) ?_
      refine g_istore (lv' := [(7, .int (0 : Int32)), (0, .ref (ad 12 0)), (1, .ref (ad 1 0)), (2, .ref (ad 3 0)), (4, .ref (ad 20 k4)), (5, .int v5), (6, .int v6)]) B dX4_find_54 (by decide) rfl ?_
      refine g_sub [1, 2, 3, 4, 5, 6, 0] rfl ?_
      exact b_X4_find_56 B N _ ih N _ _ _ _ _ h
def f_X4_find_9 (cs : List (Nat × Nat)) (N : Nat)  : Nat → Nat → Int32 → Int32 → HS → Option (Unit × HS)
  | 0, _, _, _, _ => none
  | n + 1, k4, v5, v6, S =>
    ck (mc cs 12 0) (
    if ((1 : Int32) <<< ((gi S 12 0 6) &&& 31)) ≤ v6 then (
      f_X4_find_37 cs N N k4 v5 (0 : Int32) S)
    else (
      ck (mc cs 17 1) (
      ck (inb v6 128) (
      lt_ (ul S 17 1 v6.toNatClampNeg (0 : Int64)) (fun S5 =>
      lt_ (v6 + (1 : Int32)) (fun x7 =>
      f_X4_find_9 cs N n k4 v5 x7 S5))))))
set_option maxHeartbeats 4000000 in
set_option maxRecDepth 100000 in
theorem b_X4_find_9 {p : Program} {l : Launch} {e : Env} {s : State} {m : MethodId} {args : Array Value} {below : List Frame} {meth : Method} {c : Code} {D : va_G} {cy : Nat → ClassId} {cs : List (Nat × Nat)} {ad : Nat → Nat → Nat} {r : Unit} {Z : HS} (B : Bd p s m args meth c D cy cs ad (gZ cs ad) cX4_find 8 RX4 none) (N : Nat)  : ∀ (n : Nat) (k4 : Nat) (v5 : Int32) (v6 : Int32) (S : HS), f_X4_find_9 cs N n k4 v5 v6 S = some (r, Z) → GW p l e rm_X4_find s m args below meth c (QM below args s D cy cs ad (none) Z) D cy cs ad 0 0 8 9 [(0, .ref (ad 12 0)), (1, .ref (ad 1 0)), (2, .ref (ad 3 0)), (4, .ref (ad 20 k4)), (5, .int v5), (6, .int v6)] [] S := by
  have hA := B.2.2.2.2.2.2.1
  have hZ := B.2.2.2.2.2.2.2.2.2.2
  intro n
  induction n with
  | zero => intro k4 v5 v6 S h; cases h
  | succ n ih =>
    intro k4 v5 v6 S h
    rw [f_X4_find_9] at h
    refine g_iload B dX4_find_9 5 rfl ?_
    refine g_iconst (v := (1 : Int32)) B dX4_find_11 (by decide) ?_
    refine g_aload_n B dX4_find_12 0 rfl rfl ?_
    obtain ⟨m1, h⟩ := ck_e h
    refine gt_X4_6 B m1 kf_X4_60 dX4_find_13 ?_
    refine g_ishl B dX4_find_16 ?_
    refine g_icmp_ge B 34 dX4_find_17 (by decide) (fun q2 => ?_) (fun q2 => ?_)
    · have h := if_t h q2
      refine g_iconst (v := (0 : Int32)) B dX4_find_34 (by decide) ?_
      refine g_istore (lv' := [(6, .int (0 : Int32)), (0, .ref (ad 12 0)), (1, .ref (ad 1 0)), (2, .ref (ad 3 0)), (4, .ref (ad 20 k4)), (5, .int v5)]) B dX4_find_35 (by decide) rfl ?_
      refine g_sub [1, 2, 3, 4, 5, 0] rfl ?_
      exact b_X4_find_37 B N N _ _ _ _ h
    · have h := if_f h q2
      refine g_aload_n B dX4_find_20 0 rfl rfl ?_
      refine gt_X4_13 B m1 kf_X4_48 dX4_find_21 ?_
      refine g_iload B dX4_find_24 5 rfl ?_
      refine g_lconst (v := (0 : Int64)) B dX4_find_26 rfl ?_
      obtain ⟨m3, h⟩ := ck_e h
      obtain ⟨b4, h⟩ := ck_e h
      obtain ⟨S5, e6, h⟩ := lt_e h
      refine g_last (n := 128) B m3 b4 (fun _ => rfl) e6 dX4_find_27 ?_
      obtain ⟨x7, e8, h⟩ := lt_e h
      refine g_iinc (v := x7) (lv' := [(6, .int x7), (0, .ref (ad 12 0)), (1, .ref (ad 1 0)), (2, .ref (ad 3 0)), (4, .ref (ad 20 k4)), (5, .int v5)]) B dX4_find_28 (k := 5) rfl (by rw [e8]; rfl) (by decide) rfl ?_
      refine g_goto B 9 dX4_find_31 (by decide) ?_
      refine g_sub [1, 2, 3, 4, 5, 0] rfl ?_
      exact ih _ _ _ _ h
def f_X4_find (cs : List (Nat × Nat)) (N : Nat) (a3 : Int32) (a4 : Nat) (a5 : Int32) (S : HS) : Option (Unit × HS) :=
  ck (mc cs 12 0) (
  ob (f_X4_lineUp cs N a3 S) (fun r2 S3 =>
  f_X4_find_9 cs N N a4 a5 (0 : Int32) S3))
set_option maxHeartbeats 4000000 in
set_option maxRecDepth 100000 in
theorem c_X4_find {l : Launch} {D : va_G} {cy : Nat → ClassId} {cs : List (Nat × Nat)} {ad : Nat → Nat → Nat} (hA : AdOk cs ad) (N : Nat) (a3 : Int32) (a4 : Nat) (a5 : Int32) (S : HS) (r : Unit) (Z : HS) (h : f_X4_find cs N a3 a4 a5 S = some (r, Z)) : Ctr (gZ cs ad) l yX4_find cX4_find 8 none rm_X4_find D cy cs ad [.ref (ad 12 0), .ref (ad 1 0), .ref (ad 3 0), .int a3, .ref (ad 20 a4), .int a5] S (none) Z := by
  have hZ := gZ_ok cs ad
  unfold f_X4_find at h
  refine Ctr.of hA (gZ_ok cs ad) RX4 (plainFor_of_name (by decide)) rfl [(0, .ref (ad 12 0)), (1, .ref (ad 1 0)), (2, .ref (ad 3 0)), (3, .int a3), (4, .ref (ad 20 a4)), (5, .int a5)] rfl (Nat.le_of_ble_eq_true rfl) (fun p e s m below meth c B => ?_)
  refine g_aload_n B dX4_find_0 0 rfl rfl ?_
  refine g_aload_n B dX4_find_1 2 rfl rfl ?_
  refine g_iload_n B dX4_find_2 3 rfl rfl ?_
  obtain ⟨m1, h⟩ := ck_e h
  obtain ⟨r2, S3, e4, h⟩ := ob_e h
  refine g_cvv (rest := []) B (c_X4_lineUp hA hZ N _ _ _ _ e4) mf_X4_lineUp km_X4_56 ⟨by decide, by decide⟩ ⟨rfl, rfl⟩ m1 rfl rfl rfl rfl (Nat.le_of_ble_eq_true rfl) ⟨Nat.zero_le _, Nat.zero_le _⟩ dX4_find_3 ?_
  refine g_iconst (v := (0 : Int32)) B dX4_find_6 (by decide) ?_
  refine g_istore (lv' := [(6, .int (0 : Int32)), (0, .ref (ad 12 0)), (1, .ref (ad 1 0)), (2, .ref (ad 3 0)), (3, .int a3), (4, .ref (ad 20 a4)), (5, .int a5)]) B dX4_find_7 (by decide) rfl ?_
  refine g_sub [1, 2, 3, 5, 6, 0] rfl ?_
  exact b_X4_find_9 B N N _ _ _ _ h

def rm_X7_rewind : Room := { frames := 7, cells := 0, slots := 0, locals := 147 }
def f_X7_rewind (cs : List (Nat × Nat)) (N : Nat)  (S : HS) : Option (Unit × HS) :=
  ck (mc cs 9 0) (
  lt_ (ui S 9 0 5 (0 : Int32)) (fun S2 =>
  ob (f_X7_readToken cs N  S2) (fun r4 S5 =>
  some ((), S5))))
set_option maxHeartbeats 4000000 in
set_option maxRecDepth 100000 in
theorem c_X7_rewind {l : Launch} {D : va_G} {cy : Nat → ClassId} {cs : List (Nat × Nat)} {ad : Nat → Nat → Nat} (hA : AdOk cs ad) (N : Nat)  (S : HS) (r : Unit) (Z : HS) (h : f_X7_rewind cs N  S = some (r, Z)) : Ctr (gZ cs ad) l yX7_rewind cX7_rewind 1 none rm_X7_rewind D cy cs ad [.ref (ad 9 0)] S (none) Z := by
  have hZ := gZ_ok cs ad
  unfold f_X7_rewind at h
  refine Ctr.of hA (gZ_ok cs ad) RX7 (plainFor_of_name (by decide)) rfl [(0, .ref (ad 9 0))] rfl (Nat.le_of_ble_eq_true rfl) (fun p e s m below meth c B => ?_)
  refine g_aload_n B dX7_rewind_0 0 rfl rfl ?_
  refine g_iconst (v := (0 : Int32)) B dX7_rewind_1 (by decide) ?_
  obtain ⟨m1, h⟩ := ck_e h
  obtain ⟨S2, e3, h⟩ := lt_e h
  refine pt_X7_5 B m1 kf_X7_19 e3 dX7_rewind_2 ?_
  refine g_aload_n B dX7_rewind_5 0 rfl rfl ?_
  obtain ⟨r4, S5, e6, h⟩ := ob_e h
  refine g_cvv (rest := []) B (c_X7_readToken hA N  _ _ _ e6) mf_X7_readToken km_X7_22 ⟨by decide, by decide⟩ ⟨rfl, rfl⟩ m1 rfl rfl rfl rfl (Nat.le_of_ble_eq_true rfl) ⟨Nat.zero_le _, Nat.zero_le _⟩ dX7_rewind_6 ?_
  obtain ⟨-, rfl⟩ := some_e h
  exact g_vret B dX7_rewind_9

def rm_X8_bringPlanUpToDate : Room := { frames := 5, cells := 0, slots := 0, locals := 131 }
def f_X8_bringPlanUpToDate (cs : List (Nat × Nat)) (N : Nat)  (S : HS) : Option (Unit × HS) :=
  ck (mc cs 0 0) (
  if (gi S 0 0 7) = 0 then (
    ck (mc cs 12 0) (
    ob (f_X4_find cs N (gi S 0 0 9) ((gi S 0 0 5).toNatClampNeg) (gi S 0 0 8) S) (fun r4 S5 =>
    lt_ (ui S5 0 0 7 (1 : Int32)) (fun S7 =>
    some ((), S7)))))
  else (
    some ((), S)))
set_option maxHeartbeats 4000000 in
set_option maxRecDepth 100000 in
theorem c_X8_bringPlanUpToDate {l : Launch} {D : va_G} {cy : Nat → ClassId} {cs : List (Nat × Nat)} {ad : Nat → Nat → Nat} (hA : AdOk cs ad) (N : Nat)  (S : HS) (r : Unit) (Z : HS) (h : f_X8_bringPlanUpToDate cs N  S = some (r, Z)) : Ctr (gZ cs ad) l yX8_bringPlanUpToDate cX8_bringPlanUpToDate 1 none rm_X8_bringPlanUpToDate D cy cs ad [.ref (ad 0 0)] S (none) Z := by
  have hZ := gZ_ok cs ad
  unfold f_X8_bringPlanUpToDate at h
  refine Ctr.of hA (gZ_ok cs ad) RX8 (plainFor_of_name (by decide)) rfl [(0, .ref (ad 0 0))] rfl (Nat.le_of_ble_eq_true rfl) (fun p e s m below meth c B => ?_)
  refine g_aload_n B dX8_bringPlanUpToDate_0 0 rfl rfl ?_
  obtain ⟨m1, h⟩ := ck_e h
  refine gt_X8_7 B m1 kf_X8_71 dX8_bringPlanUpToDate_1 ?_
  refine g_if_ne B 39 dX8_bringPlanUpToDate_4 (by decide) (fun q2 => ?_) (fun q2 => ?_)
  · have h := if_f h q2
    obtain ⟨-, rfl⟩ := some_e h
    exact g_vret B dX8_bringPlanUpToDate_39
  · have h := if_t h q2
    refine g_aload_n B dX8_bringPlanUpToDate_7 0 rfl rfl ?_
    refine gt_X8_4 B m1 kf_X8_37 dX8_bringPlanUpToDate_8 ?_
    refine g_aload_n B dX8_bringPlanUpToDate_11 0 rfl rfl ?_
    refine gt_X8_0 B m1 kf_X8_11 dX8_bringPlanUpToDate_12 ?_
    refine g_aload_n B dX8_bringPlanUpToDate_15 0 rfl rfl ?_
    refine gt_X8_2 B m1 kf_X8_23 dX8_bringPlanUpToDate_16 ?_
    refine g_aload_n B dX8_bringPlanUpToDate_19 0 rfl rfl ?_
    refine gt_X8_9 B m1 kf_X8_87 dX8_bringPlanUpToDate_20 ?_
    refine g_aload_n B dX8_bringPlanUpToDate_23 0 rfl rfl ?_
    refine gt_X8_5 B m1 kf_X8_44 dX8_bringPlanUpToDate_24 ?_
    refine g_aload_n B dX8_bringPlanUpToDate_27 0 rfl rfl ?_
    refine gt_X8_8 B m1 kf_X8_148 dX8_bringPlanUpToDate_28 ?_
    obtain ⟨m3, h⟩ := ck_e h
    obtain ⟨r4, S5, e6, h⟩ := ob_e h
    refine g_cvv (rest := []) B (c_X4_find hA N _ _ _ _ _ _ e6) mf_X4_find km_X8_193 ⟨by decide, by decide⟩ ⟨rfl, rfl⟩ m3 rfl rfl rfl rfl (Nat.le_of_ble_eq_true rfl) ⟨Nat.zero_le _, Nat.zero_le _⟩ dX8_bringPlanUpToDate_31 ?_
    refine g_aload_n B dX8_bringPlanUpToDate_34 0 rfl rfl ?_
    refine g_iconst (v := (1 : Int32)) B dX8_bringPlanUpToDate_35 (by decide) ?_
    obtain ⟨S7, e8, h⟩ := lt_e h
    refine pt_X8_7 B m1 kf_X8_71 (by decide) e8 dX8_bringPlanUpToDate_36 ?_
    obtain ⟨-, rfl⟩ := some_e h
    exact g_vret B dX8_bringPlanUpToDate_39

def rm_X1_readLine : Room := { frames := 8, cells := 0, slots := 0, locals := 171 }
def f_X1_readLine_37 (cs : List (Nat × Nat)) (N : Nat)  (k1 : Nat) (v2 : Int32) (S : HS) : Option (Int32 × HS) :=
  ck (mc cs 8 0) (
  if (gi S 8 0 1) < (24 : Int32) then (
    ck (mc cs 9 0) (
    ob (f_X7_readToken cs N  S) (fun r4 S5 =>
    ob (f_X1_formOf cs N v2 S5) (fun r7 S8 =>
    ob (f_X1_readParts cs N r7 S8) (fun r10 S11 =>
    if r10 = 0 then (
      some ((0 : Int32), S11))
    else (
      ob (f_X1_tell cs N v2 k1 S11) (fun r14 S15 =>
      lt_ (ui S15 8 0 1 ((gi S15 8 0 1) + (1 : Int32))) (fun S17 =>
      some ((1 : Int32), S17)))))))))
  else (
    ob (f_X1_stopAt cs N (3 : Int32) S) (fun r19 S20 =>
    ck (b01 r19) (
    some (r19, S20)))))
set_option maxHeartbeats 4000000 in
set_option maxRecDepth 100000 in
theorem b_X1_readLine_37 {p : Program} {l : Launch} {e : Env} {s : State} {m : MethodId} {args : Array Value} {below : List Frame} {meth : Method} {c : Code} {D : va_G} {cy : Nat → ClassId} {cs : List (Nat × Nat)} {ad : Nat → Nat → Nat} {r : Int32} {Z : HS} (B : Bd p s m args meth c D cy cs ad (gZ cs ad) cX1_readLine 3 RX1 (some .boolean)) (N : Nat)  (k1 : Nat) (v2 : Int32) (S : HS) (h : f_X1_readLine_37 cs N k1 v2 S = some (r, Z)) : GW p l e rm_X1_readLine s m args below meth c (QM below args s D cy cs ad (some (.int r)) Z) D cy cs ad 0 0 3 37 [(0, .ref (ad 8 0)), (1, .ref (ad 20 k1)), (2, .int v2)] [] S := by
  have hA := B.2.2.2.2.2.2.1
  have hZ := B.2.2.2.2.2.2.2.2.2.2
  unfold f_X1_readLine_37 at h
  refine g_aload_n B dX1_readLine_37 0 rfl rfl ?_
  obtain ⟨m1, h⟩ := ck_e h
  refine gt_X1_1 B m1 kf_X1_26 dX1_readLine_38 ?_
  refine g_bipush (v := (24 : Int32)) B dX1_readLine_41 (by decide) ?_
  refine g_icmp_lt B 52 dX1_readLine_43 (by decide) (fun q2 => ?_) (fun q2 => ?_)
  · have h := if_t h q2
    refine g_aload_n B dX1_readLine_52 0 rfl rfl ?_
    refine gt_X1_0 B m1 kf_X1_12 dX1_readLine_53 ?_
    obtain ⟨m3, h⟩ := ck_e h
    obtain ⟨r4, S5, e6, h⟩ := ob_e h
    refine g_cvv (rest := []) B (c_X7_readToken hA N  _ _ _ e6) mf_X7_readToken km_X1_51 ⟨by decide, by decide⟩ ⟨rfl, rfl⟩ m3 rfl rfl rfl rfl (Nat.le_of_ble_eq_true rfl) ⟨Nat.zero_le _, Nat.zero_le _⟩ dX1_readLine_56 ?_
    refine g_aload_n B dX1_readLine_59 0 rfl rfl ?_
    refine g_iload_n B dX1_readLine_60 2 rfl rfl ?_
    obtain ⟨r7, S8, e9, h⟩ := ob_e h
    refine g_csr (rest := [.ref (ad 8 0)]) B (c_X1_formOf hA N _ _ _ _ e9) mf_X1_formOf km_X1_54 ⟨by decide, by decide⟩ ⟨rfl, rfl⟩ rfl rfl (Nat.le_of_ble_eq_true rfl) ⟨Nat.zero_le _, Nat.zero_le _⟩ dX1_readLine_61 ?_
    obtain ⟨r10, S11, e12, h⟩ := ob_e h
    refine g_cvi (rest := []) B (c_X1_readParts hA N _ _ _ _ e12) mf_X1_readParts km_X1_58 ⟨by decide, by decide⟩ ⟨rfl, rfl⟩ m1 rfl rfl rfl rfl (Nat.le_of_ble_eq_true rfl) ⟨Nat.zero_le _, Nat.zero_le _⟩ dX1_readLine_64 ?_
    refine g_if_ne B 72 dX1_readLine_67 (by decide) (fun q13 => ?_) (fun q13 => ?_)
    · have h := if_f h q13
      refine g_aload_n B dX1_readLine_72 0 rfl rfl ?_
      refine g_iload_n B dX1_readLine_73 2 rfl rfl ?_
      refine g_aload_n B dX1_readLine_74 1 rfl rfl ?_
      obtain ⟨r14, S15, e16, h⟩ := ob_e h
      refine g_cvv (rest := []) B (c_X1_tell hA hZ N _ _ _ _ _ e16) mf_X1_tell km_X1_62 ⟨by decide, by decide⟩ ⟨rfl, rfl⟩ m1 rfl rfl rfl rfl (Nat.le_of_ble_eq_true rfl) ⟨Nat.zero_le _, Nat.zero_le _⟩ dX1_readLine_75 ?_
      refine g_aload_n B dX1_readLine_78 0 rfl rfl ?_
      refine g_dup B dX1_readLine_79 rfl ?_
      refine gt_X1_1 B m1 kf_X1_26 dX1_readLine_80 ?_
      refine g_iconst (v := (1 : Int32)) B dX1_readLine_83 (by decide) ?_
      refine g_iadd B dX1_readLine_84 ?_
      obtain ⟨S17, e18, h⟩ := lt_e h
      refine pt_X1_1 B m1 kf_X1_26 e18 dX1_readLine_85 ?_
      refine g_iconst (v := (1 : Int32)) B dX1_readLine_88 (by decide) ?_
      obtain ⟨rfl, rfl⟩ := some_e h
      exact g_zret B (by decide) dX1_readLine_89
    · have h := if_t h q13
      refine g_iconst (v := (0 : Int32)) B dX1_readLine_70 (by decide) ?_
      obtain ⟨rfl, rfl⟩ := some_e h
      exact g_zret B (by decide) dX1_readLine_71
  · have h := if_f h q2
    refine g_aload_n B dX1_readLine_46 0 rfl rfl ?_
    refine g_iconst (v := (3 : Int32)) B dX1_readLine_47 (by decide) ?_
    obtain ⟨r19, S20, e21, h⟩ := ob_e h
    refine g_cvi (rest := []) B (c_X1_stopAt hA hZ N _ _ _ _ e21) mf_X1_stopAt km_X1_47 ⟨by decide, by decide⟩ ⟨rfl, rfl⟩ m1 rfl rfl rfl rfl (Nat.le_of_ble_eq_true rfl) ⟨Nat.zero_le _, Nat.zero_le _⟩ dX1_readLine_48 ?_
    obtain ⟨b22, h⟩ := ck_e h
    obtain ⟨rfl, rfl⟩ := some_e h
    exact g_zret B b22 dX1_readLine_51
def f_X1_readLine (cs : List (Nat × Nat)) (N : Nat) (a1 : Nat) (S : HS) : Option (Int32 × HS) :=
  ck (mc cs 8 0) (
  ck (mc cs 9 0) (
  lt_ ((gi S 9 0 1)) (fun x3 =>
  if x3 = (4 : Int32) then (
    f_X1_readLine_37 cs N a1 x3 S)
  else (
    if x3 = (6 : Int32) then (
      f_X1_readLine_37 cs N a1 x3 S)
    else (
      if x3 = (9 : Int32) then (
        f_X1_readLine_37 cs N a1 x3 S)
      else (
        if x3 = (11 : Int32) then (
          f_X1_readLine_37 cs N a1 x3 S)
        else (
          ob (f_X1_stopAt cs N (1 : Int32) S) (fun r9 S10 =>
          ck (b01 r9) (
          some (r9, S10))))))))))
set_option maxHeartbeats 4000000 in
set_option maxRecDepth 100000 in
theorem c_X1_readLine {l : Launch} {D : va_G} {cy : Nat → ClassId} {cs : List (Nat × Nat)} {ad : Nat → Nat → Nat} (hA : AdOk cs ad) (N : Nat) (a1 : Nat) (S : HS) (r : Int32) (Z : HS) (h : f_X1_readLine cs N a1 S = some (r, Z)) : Ctr (gZ cs ad) l yX1_readLine cX1_readLine 3 (some .boolean) rm_X1_readLine D cy cs ad [.ref (ad 8 0), .ref (ad 20 a1)] S (some (.int r)) Z := by
  have hZ := gZ_ok cs ad
  unfold f_X1_readLine at h
  refine Ctr.of hA (gZ_ok cs ad) RX1 (plainFor_of_name (by decide)) rfl [(0, .ref (ad 8 0)), (1, .ref (ad 20 a1))] rfl (Nat.le_of_ble_eq_true rfl) (fun p e s m below meth c B => ?_)
  refine g_aload_n B dX1_readLine_0 0 rfl rfl ?_
  obtain ⟨m1, h⟩ := ck_e h
  refine gt_X1_0 B m1 kf_X1_12 dX1_readLine_1 ?_
  obtain ⟨m2, h⟩ := ck_e h
  refine gt_X7_1 B m2 kf_X1_40 dX1_readLine_4 ?_
  obtain ⟨x3, e4, h⟩ := lt_e h
  refine g_topi e4 ?_
  refine g_istore_n (lv' := [(2, .int x3), (0, .ref (ad 8 0)), (1, .ref (ad 20 a1))]) B dX1_readLine_7 rfl (by decide) rfl ?_
  refine g_iload_n B dX1_readLine_8 0 rfl rfl ?_
  refine g_iconst (v := (4 : Int32)) B dX1_readLine_9 (by decide) ?_
  refine g_icmp_eq B 37 dX1_readLine_10 (by decide) (fun q5 => ?_) (fun q5 => ?_)
  · have h := if_t h q5
    refine g_sub [1, 2, 0] rfl ?_
    exact b_X1_readLine_37 B N _ _ _ h
  · have h := if_f h q5
    refine g_iload_n B dX1_readLine_13 0 rfl rfl ?_
    refine g_bipush (v := (6 : Int32)) B dX1_readLine_14 (by decide) ?_
    refine g_icmp_eq B 37 dX1_readLine_16 (by decide) (fun q6 => ?_) (fun q6 => ?_)
    · have h := if_t h q6
      refine g_sub [1, 2, 0] rfl ?_
      exact b_X1_readLine_37 B N _ _ _ h
    · have h := if_f h q6
      refine g_iload_n B dX1_readLine_19 0 rfl rfl ?_
      refine g_bipush (v := (9 : Int32)) B dX1_readLine_20 (by decide) ?_
      refine g_icmp_eq B 37 dX1_readLine_22 (by decide) (fun q7 => ?_) (fun q7 => ?_)
      · have h := if_t h q7
        refine g_sub [1, 2, 0] rfl ?_
        exact b_X1_readLine_37 B N _ _ _ h
      · have h := if_f h q7
        refine g_iload_n B dX1_readLine_25 0 rfl rfl ?_
        refine g_bipush (v := (11 : Int32)) B dX1_readLine_26 (by decide) ?_
        refine g_icmp_eq B 37 dX1_readLine_28 (by decide) (fun q8 => ?_) (fun q8 => ?_)
        · have h := if_t h q8
          refine g_sub [1, 2, 0] rfl ?_
          exact b_X1_readLine_37 B N _ _ _ h
        · have h := if_f h q8
          refine g_aload_n B dX1_readLine_31 1 rfl rfl ?_
          refine g_iconst (v := (1 : Int32)) B dX1_readLine_32 (by decide) ?_
          obtain ⟨r9, S10, e11, h⟩ := ob_e h
          refine g_cvi (rest := []) B (c_X1_stopAt hA hZ N _ _ _ _ e11) mf_X1_stopAt km_X1_47 ⟨by decide, by decide⟩ ⟨rfl, rfl⟩ m1 rfl rfl rfl rfl (Nat.le_of_ble_eq_true rfl) ⟨Nat.zero_le _, Nat.zero_le _⟩ dX1_readLine_33 ?_
          obtain ⟨b12, h⟩ := ck_e h
          obtain ⟨rfl, rfl⟩ := some_e h
          exact g_zret B b12 dX1_readLine_36

def rm_X8_best : Room := { frames := 6, cells := 0, slots := 0, locals := 151 }
def f_X8_best (cs : List (Nat × Nat)) (N : Nat) (a1 : Int32) (S : HS) : Option (Int32 × HS) :=
  ck (mc cs 0 0) (
  ob (f_X8_bringPlanUpToDate cs N  S) (fun r2 S3 =>
  ob (f_X8_isOrder cs N (a1 - (10 : Int32)) S3) (fun r5 S6 =>
  if r5 = 0 then (
    ob (f_X8_isOrder cs N (a1 - (20 : Int32)) S6) (fun r9 S10 =>
    if r9 = 0 then (
      if a1 = (0 : Int32) then (
        ck (mc cs 12 0) (
        some ((gi S10 12 0 0), S10)))
      else (
      if a1 = (1 : Int32) then (
        ck (mc cs 12 0) (
        some ((gi S10 12 0 1), S10)))
      else (
      some ((-1 : Int32), S10))))
    else (
      ck (mc cs 12 0) (
      ck (mc cs 13 1) (
      ck (inb (a1 - (20 : Int32)) 7) (
      some ((gi S10 13 1 (a1 - (20 : Int32)).toNatClampNeg), S10)))))))
  else (
    ck (mc cs 12 0) (
    ck (mc cs 13 0) (
    ck (inb (a1 - (10 : Int32)) 7) (
    some ((gi S6 13 0 (a1 - (10 : Int32)).toNatClampNeg), S6))))))))
set_option maxHeartbeats 4000000 in
set_option maxRecDepth 100000 in
theorem c_X8_best {l : Launch} {D : va_G} {cy : Nat → ClassId} {cs : List (Nat × Nat)} {ad : Nat → Nat → Nat} (hA : AdOk cs ad) (N : Nat) (a1 : Int32) (S : HS) (r : Int32) (Z : HS) (h : f_X8_best cs N a1 S = some (r, Z)) : Ctr (gZ cs ad) l yX8_best cX8_best 2 (some .int) rm_X8_best D cy cs ad [.ref (ad 0 0), .int a1] S (some (.int r)) Z := by
  have hZ := gZ_ok cs ad
  unfold f_X8_best at h
  refine Ctr.of hA (gZ_ok cs ad) RX8 (plainFor_of_name (by decide)) rfl [(0, .ref (ad 0 0)), (1, .int a1)] rfl (Nat.le_of_ble_eq_true rfl) (fun p e s m below meth c B => ?_)
  refine g_aload_n B dX8_best_0 0 rfl rfl ?_
  obtain ⟨m1, h⟩ := ck_e h
  obtain ⟨r2, S3, e4, h⟩ := ob_e h
  refine g_cvv (rest := []) B (c_X8_bringPlanUpToDate hA N  _ _ _ e4) mf_X8_bringPlanUpToDate km_X8_169 ⟨by decide, by decide⟩ ⟨rfl, rfl⟩ m1 rfl rfl rfl rfl (Nat.le_of_ble_eq_true rfl) ⟨Nat.zero_le _, Nat.zero_le _⟩ dX8_best_1 ?_
  refine g_aload_n B dX8_best_4 0 rfl rfl ?_
  refine g_iload_n B dX8_best_5 1 rfl rfl ?_
  refine g_bipush (v := (10 : Int32)) B dX8_best_6 (by decide) ?_
  refine g_isub B dX8_best_8 ?_
  obtain ⟨r5, S6, e7, h⟩ := ob_e h
  refine g_cvi (rest := []) B (c_X8_isOrder hA hZ N _ _ _ _ e7) mf_X8_isOrder km_X8_114 ⟨by decide, by decide⟩ ⟨rfl, rfl⟩ m1 rfl rfl rfl rfl (Nat.le_of_ble_eq_true rfl) ⟨Nat.zero_le _, Nat.zero_le _⟩ dX8_best_9 ?_
  refine g_if_eq B 28 dX8_best_12 (by decide) (fun q8 => ?_) (fun q8 => ?_)
  · have h := if_t h q8
    refine g_aload_n B dX8_best_28 0 rfl rfl ?_
    refine g_iload_n B dX8_best_29 1 rfl rfl ?_
    refine g_bipush (v := (20 : Int32)) B dX8_best_30 (by decide) ?_
    refine g_isub B dX8_best_32 ?_
    obtain ⟨r9, S10, e11, h⟩ := ob_e h
    refine g_cvi (rest := []) B (c_X8_isOrder hA hZ N _ _ _ _ e11) mf_X8_isOrder km_X8_114 ⟨by decide, by decide⟩ ⟨rfl, rfl⟩ m1 rfl rfl rfl rfl (Nat.le_of_ble_eq_true rfl) ⟨Nat.zero_le _, Nat.zero_le _⟩ dX8_best_33 ?_
    refine g_if_eq B 52 dX8_best_36 (by decide) (fun q12 => ?_) (fun q12 => ?_)
    · have h := if_t h q12
      refine g_iload_n B dX8_best_52 1 rfl rfl ?_
      by_cases q13 : a1 = (0 : Int32)
      · have h := if_t h q13
        refine g_lookup (off := 27) B 80 dX8_best_53 (by decide) (by rw [q13]; decide) (by decide) ?_
        refine g_aload_n B dX8_best_80 0 rfl rfl ?_
        refine gt_X8_4 B m1 kf_X8_37 dX8_best_81 ?_
        obtain ⟨m14, h⟩ := ck_e h
        refine gt_X4_0 B m14 kf_X8_178 dX8_best_84 ?_
        obtain ⟨rfl, rfl⟩ := some_e h
        exact g_iret B dX8_best_87
      have h := if_f h q13
      by_cases q15 : a1 = (1 : Int32)
      · have h := if_t h q15
        refine g_lookup (off := 35) B 88 dX8_best_53 (by decide) (by rw [q15]; decide) (by decide) ?_
        refine g_aload_n B dX8_best_88 0 rfl rfl ?_
        refine gt_X8_4 B m1 kf_X8_37 dX8_best_89 ?_
        obtain ⟨m16, h⟩ := ck_e h
        refine gt_X4_1 B m16 kf_X8_181 dX8_best_92 ?_
        obtain ⟨rfl, rfl⟩ := some_e h
        exact g_iret B dX8_best_95
      have h := if_f h q15
      refine g_lookup (off := 43) B 96 dX8_best_53 (by decide) (by show Op.lookupswitch.offset [(0, 27), (1, 35)] 43 _ = _; rw [lv_osw q13 (by decide), lv_osw q15 (by decide)]; rfl) (by decide) ?_
      refine g_iconst (v := (-1 : Int32)) B dX8_best_96 (by decide) ?_
      obtain ⟨rfl, rfl⟩ := some_e h
      exact g_iret B dX8_best_97
    · have h := if_f h q12
      refine g_aload_n B dX8_best_39 0 rfl rfl ?_
      refine gt_X8_4 B m1 kf_X8_37 dX8_best_40 ?_
      obtain ⟨m17, h⟩ := ck_e h
      refine gt_X4_3 B m17 kf_X8_175 dX8_best_43 ?_
      refine g_iload_n B dX8_best_46 1 rfl rfl ?_
      refine g_bipush (v := (20 : Int32)) B dX8_best_47 (by decide) ?_
      refine g_isub B dX8_best_49 ?_
      obtain ⟨m18, h⟩ := ck_e h
      obtain ⟨b19, h⟩ := ck_e h
      refine g_iald (n := 7) B m18 (fun _ => rfl) b19 dX8_best_50 ?_
      obtain ⟨rfl, rfl⟩ := some_e h
      exact g_iret B dX8_best_51
  · have h := if_f h q8
    refine g_aload_n B dX8_best_15 0 rfl rfl ?_
    refine gt_X8_4 B m1 kf_X8_37 dX8_best_16 ?_
    obtain ⟨m20, h⟩ := ck_e h
    refine gt_X4_2 B m20 kf_X8_172 dX8_best_19 ?_
    refine g_iload_n B dX8_best_22 1 rfl rfl ?_
    refine g_bipush (v := (10 : Int32)) B dX8_best_23 (by decide) ?_
    refine g_isub B dX8_best_25 ?_
    obtain ⟨m21, h⟩ := ck_e h
    obtain ⟨b22, h⟩ := ck_e h
    refine g_iald (n := 7) B m21 (fun _ => rfl) b22 dX8_best_26 ?_
    obtain ⟨rfl, rfl⟩ := some_e h
    exact g_iret B dX8_best_27

def rm_X8_work : Room := { frames := 6, cells := 0, slots := 0, locals := 151 }
def f_X8_work_53 (cs : List (Nat × Nat)) (N : Nat)  : Nat → Int32 → HS → Option (Int32 × HS)
  | 0, _, _ => none
  | n + 1, v1, S =>
    ck (mc cs 0 0) (
    if (gi S 0 0 9) ≤ v1 then (
      lt_ (ui S 0 0 7 (0 : Int32)) (fun S3 =>
      some ((gi S3 0 0 8), S3)))
    else (
      ck (mc cs 3 0) (
      ck (inb v1 7) (
      ck (mc cs 7 (v1.toNatClampNeg)) (
      if (gi S 7 (v1.toNatClampNeg) 8) = 0 then (
        ck (inb v1 7) (
        if (gi S 0 0 8) ≤ (gi S 7 (v1.toNatClampNeg) 3) then (
          lt_ (v1 + (1 : Int32)) (fun x13 =>
          f_X8_work_53 cs N n x13 S))
        else (
          ck (inb v1 7) (
          lt_ (ui S 7 (v1.toNatClampNeg) 8 (3 : Int32)) (fun S16 =>
          lt_ (v1 + (1 : Int32)) (fun x18 =>
          f_X8_work_53 cs N n x18 S16))))))
      else (
        lt_ (v1 + (1 : Int32)) (fun x9 =>
        f_X8_work_53 cs N n x9 S)))))))
set_option maxHeartbeats 4000000 in
set_option maxRecDepth 100000 in
theorem b_X8_work_53 {p : Program} {l : Launch} {e : Env} {s : State} {m : MethodId} {args : Array Value} {below : List Frame} {meth : Method} {c : Code} {D : va_G} {cy : Nat → ClassId} {cs : List (Nat × Nat)} {ad : Nat → Nat → Nat} {r : Int32} {Z : HS} (B : Bd p s m args meth c D cy cs ad (gZ cs ad) cX8_work 2 RX8 (some .int)) (N : Nat)  : ∀ (n : Nat) (v1 : Int32) (S : HS), f_X8_work_53 cs N n v1 S = some (r, Z) → GW p l e rm_X8_work s m args below meth c (QM below args s D cy cs ad (some (.int r)) Z) D cy cs ad 0 0 2 53 [(0, .ref (ad 0 0)), (1, .int v1)] [] S := by
  have hA := B.2.2.2.2.2.2.1
  have hZ := B.2.2.2.2.2.2.2.2.2.2
  intro n
  induction n with
  | zero => intro v1 S h; cases h
  | succ n ih =>
    intro v1 S h
    rw [f_X8_work_53] at h
    refine g_iload_n B dX8_work_53 1 rfl rfl ?_
    refine g_aload_n B dX8_work_54 0 rfl rfl ?_
    obtain ⟨m1, h⟩ := ck_e h
    refine gt_X8_9 B m1 kf_X8_87 dX8_work_55 ?_
    refine g_icmp_ge B 105 dX8_work_58 (by decide) (fun q2 => ?_) (fun q2 => ?_)
    · have h := if_t h q2
      refine g_aload_n B dX8_work_105 0 rfl rfl ?_
      refine g_iconst (v := (0 : Int32)) B dX8_work_106 (by decide) ?_
      obtain ⟨S3, e4, h⟩ := lt_e h
      refine pt_X8_7 B m1 kf_X8_71 (by decide) e4 dX8_work_107 ?_
      refine g_aload_n B dX8_work_110 0 rfl rfl ?_
      refine gt_X8_8 B m1 kf_X8_148 dX8_work_111 ?_
      obtain ⟨rfl, rfl⟩ := some_e h
      exact g_iret B dX8_work_114
    · have h := if_f h q2
      refine g_aload_n B dX8_work_61 0 rfl rfl ?_
      refine gt_X8_2 B m1 kf_X8_23 dX8_work_62 ?_
      refine g_iload_n B dX8_work_65 1 rfl rfl ?_
      obtain ⟨m5, h⟩ := ck_e h
      obtain ⟨b6, h⟩ := ck_e h
      refine g_aald (t0 := 6) (a := ad 7 (v1.toNatClampNeg)) B rfl rfl m5 rfl b6 rfl dX8_work_66 ?_
      obtain ⟨m7, h⟩ := ck_e h
      refine gt_X6_8 B m7 kf_X8_90 dX8_work_67 ?_
      refine g_if_ne B 99 dX8_work_70 (by decide) (fun q8 => ?_) (fun q8 => ?_)
      · have h := if_f h q8
        obtain ⟨x9, e10, h⟩ := lt_e h
        refine g_iinc (v := x9) (lv' := [(1, .int x9), (0, .ref (ad 0 0))]) B dX8_work_99 (k := 1) rfl (by rw [e10]; rfl) (by decide) rfl ?_
        refine g_goto B 53 dX8_work_102 (by decide) ?_
        refine g_sub [1, 0] rfl ?_
        exact ih _ _ h
      · have h := if_t h q8
        refine g_aload_n B dX8_work_73 0 rfl rfl ?_
        refine gt_X8_2 B m1 kf_X8_23 dX8_work_74 ?_
        refine g_iload_n B dX8_work_77 1 rfl rfl ?_
        obtain ⟨b11, h⟩ := ck_e h
        refine g_aald (t0 := 6) (a := ad 7 (v1.toNatClampNeg)) B rfl rfl m5 rfl b11 rfl dX8_work_78 ?_
        refine gt_X6_3 B m7 kf_X8_105 dX8_work_79 ?_
        refine g_aload_n B dX8_work_82 0 rfl rfl ?_
        refine gt_X8_8 B m1 kf_X8_148 dX8_work_83 ?_
        refine g_icmp_ge B 99 dX8_work_86 (by decide) (fun q12 => ?_) (fun q12 => ?_)
        · have h := if_t h q12
          obtain ⟨x13, e14, h⟩ := lt_e h
          refine g_iinc (v := x13) (lv' := [(1, .int x13), (0, .ref (ad 0 0))]) B dX8_work_99 (k := 1) rfl (by rw [e14]; rfl) (by decide) rfl ?_
          refine g_goto B 53 dX8_work_102 (by decide) ?_
          refine g_sub [1, 0] rfl ?_
          exact ih _ _ h
        · have h := if_f h q12
          refine g_aload_n B dX8_work_89 0 rfl rfl ?_
          refine gt_X8_2 B m1 kf_X8_23 dX8_work_90 ?_
          refine g_iload_n B dX8_work_93 1 rfl rfl ?_
          obtain ⟨b15, h⟩ := ck_e h
          refine g_aald (t0 := 6) (a := ad 7 (v1.toNatClampNeg)) B rfl rfl m5 rfl b15 rfl dX8_work_94 ?_
          refine g_iconst (v := (3 : Int32)) B dX8_work_95 (by decide) ?_
          obtain ⟨S16, e17, h⟩ := lt_e h
          refine pt_X6_8 B m7 kf_X8_90 e17 dX8_work_96 ?_
          obtain ⟨x18, e19, h⟩ := lt_e h
          refine g_iinc (v := x18) (lv' := [(1, .int x18), (0, .ref (ad 0 0))]) B dX8_work_99 (k := 1) rfl (by rw [e19]; rfl) (by decide) rfl ?_
          refine g_goto B 53 dX8_work_102 (by decide) ?_
          refine g_sub [1, 0] rfl ?_
          exact ih _ _ h
def f_X8_work_17 (cs : List (Nat × Nat)) (N : Nat)  : Nat → Int32 → HS → Option (Int32 × HS)
  | 0, _, _ => none
  | n + 1, v1, S =>
    ck (mc cs 0 0) (
    if (gi S 0 0 9) ≤ v1 then (
      lt_ (ui S 0 0 8 ((gi S 0 0 8) + (1 : Int32))) (fun S3 =>
      f_X8_work_53 cs N N (0 : Int32) S3))
    else (
      ck (mc cs 3 0) (
      ck (inb v1 7) (
      ob (f_X8_workAsPlanned cs N (v1.toNatClampNeg) S) (fun r7 S8 =>
      lt_ (v1 + (1 : Int32)) (fun x10 =>
      f_X8_work_17 cs N n x10 S8))))))
set_option maxHeartbeats 4000000 in
set_option maxRecDepth 100000 in
theorem b_X8_work_17 {p : Program} {l : Launch} {e : Env} {s : State} {m : MethodId} {args : Array Value} {below : List Frame} {meth : Method} {c : Code} {D : va_G} {cy : Nat → ClassId} {cs : List (Nat × Nat)} {ad : Nat → Nat → Nat} {r : Int32} {Z : HS} (B : Bd p s m args meth c D cy cs ad (gZ cs ad) cX8_work 2 RX8 (some .int)) (N : Nat)  : ∀ (n : Nat) (v1 : Int32) (S : HS), f_X8_work_17 cs N n v1 S = some (r, Z) → GW p l e rm_X8_work s m args below meth c (QM below args s D cy cs ad (some (.int r)) Z) D cy cs ad 0 0 2 17 [(0, .ref (ad 0 0)), (1, .int v1)] [] S := by
  have hA := B.2.2.2.2.2.2.1
  have hZ := B.2.2.2.2.2.2.2.2.2.2
  intro n
  induction n with
  | zero => intro v1 S h; cases h
  | succ n ih =>
    intro v1 S h
    rw [f_X8_work_17] at h
    refine g_iload_n B dX8_work_17 1 rfl rfl ?_
    refine g_aload_n B dX8_work_18 0 rfl rfl ?_
    obtain ⟨m1, h⟩ := ck_e h
    refine gt_X8_9 B m1 kf_X8_87 dX8_work_19 ?_
    refine g_icmp_ge B 41 dX8_work_22 (by decide) (fun q2 => ?_) (fun q2 => ?_)
    · have h := if_t h q2
      refine g_aload_n B dX8_work_41 0 rfl rfl ?_
      refine g_dup B dX8_work_42 rfl ?_
      refine gt_X8_8 B m1 kf_X8_148 dX8_work_43 ?_
      refine g_iconst (v := (1 : Int32)) B dX8_work_46 (by decide) ?_
      refine g_iadd B dX8_work_47 ?_
      obtain ⟨S3, e4, h⟩ := lt_e h
      refine pt_X8_8 B m1 kf_X8_148 e4 dX8_work_48 ?_
      refine g_iconst (v := (0 : Int32)) B dX8_work_51 (by decide) ?_
      refine g_istore_n (lv' := [(1, .int (0 : Int32)), (0, .ref (ad 0 0))]) B dX8_work_52 rfl (by decide) rfl ?_
      refine g_sub [1, 0] rfl ?_
      exact b_X8_work_53 B N N _ _ h
    · have h := if_f h q2
      refine g_aload_n B dX8_work_25 0 rfl rfl ?_
      refine g_aload_n B dX8_work_26 0 rfl rfl ?_
      refine gt_X8_2 B m1 kf_X8_23 dX8_work_27 ?_
      refine g_iload_n B dX8_work_30 1 rfl rfl ?_
      obtain ⟨m5, h⟩ := ck_e h
      obtain ⟨b6, h⟩ := ck_e h
      refine g_aald (t0 := 6) (a := ad 7 (v1.toNatClampNeg)) B rfl rfl m5 rfl b6 rfl dX8_work_31 ?_
      obtain ⟨r7, S8, e9, h⟩ := ob_e h
      refine g_cvv (rest := []) B (c_X8_workAsPlanned hA hZ N _ _ _ _ e9) mf_X8_workAsPlanned km_X8_182 ⟨by decide, by decide⟩ ⟨rfl, rfl⟩ m1 rfl rfl rfl rfl (Nat.le_of_ble_eq_true rfl) ⟨Nat.zero_le _, Nat.zero_le _⟩ dX8_work_32 ?_
      obtain ⟨x10, e11, h⟩ := lt_e h
      refine g_iinc (v := x10) (lv' := [(1, .int x10), (0, .ref (ad 0 0))]) B dX8_work_35 (k := 1) rfl (by rw [e11]; rfl) (by decide) rfl ?_
      refine g_goto B 17 dX8_work_38 (by decide) ?_
      refine g_sub [1, 0] rfl ?_
      exact ih _ _ h
def f_X8_work (cs : List (Nat × Nat)) (N : Nat)  (S : HS) : Option (Int32 × HS) :=
  ck (mc cs 0 0) (
  if (gi S 0 0 8) < (51 : Int32) then (
    ob (f_X8_bringPlanUpToDate cs N  S) (fun r3 S4 =>
    f_X8_work_17 cs N N (0 : Int32) S4))
  else (
    some ((-1 : Int32), S)))
set_option maxHeartbeats 4000000 in
set_option maxRecDepth 100000 in
theorem c_X8_work {l : Launch} {D : va_G} {cy : Nat → ClassId} {cs : List (Nat × Nat)} {ad : Nat → Nat → Nat} (hA : AdOk cs ad) (N : Nat)  (S : HS) (r : Int32) (Z : HS) (h : f_X8_work cs N  S = some (r, Z)) : Ctr (gZ cs ad) l yX8_work cX8_work 2 (some .int) rm_X8_work D cy cs ad [.ref (ad 0 0)] S (some (.int r)) Z := by
  have hZ := gZ_ok cs ad
  unfold f_X8_work at h
  refine Ctr.of hA (gZ_ok cs ad) RX8 (plainFor_of_name (by decide)) rfl [(0, .ref (ad 0 0))] rfl (Nat.le_of_ble_eq_true rfl) (fun p e s m below meth c B => ?_)
  refine g_aload_n B dX8_work_0 0 rfl rfl ?_
  obtain ⟨m1, h⟩ := ck_e h
  refine gt_X8_8 B m1 kf_X8_148 dX8_work_1 ?_
  refine g_bipush (v := (51 : Int32)) B dX8_work_4 (by decide) ?_
  refine g_icmp_lt B 11 dX8_work_6 (by decide) (fun q2 => ?_) (fun q2 => ?_)
  · have h := if_t h q2
    refine g_aload_n B dX8_work_11 0 rfl rfl ?_
    obtain ⟨r3, S4, e5, h⟩ := ob_e h
    refine g_cvv (rest := []) B (c_X8_bringPlanUpToDate hA N  _ _ _ e5) mf_X8_bringPlanUpToDate km_X8_169 ⟨by decide, by decide⟩ ⟨rfl, rfl⟩ m1 rfl rfl rfl rfl (Nat.le_of_ble_eq_true rfl) ⟨Nat.zero_le _, Nat.zero_le _⟩ dX8_work_12 ?_
    refine g_iconst (v := (0 : Int32)) B dX8_work_15 (by decide) ?_
    refine g_istore_n (lv' := [(1, .int (0 : Int32)), (0, .ref (ad 0 0))]) B dX8_work_16 rfl (by decide) rfl ?_
    refine g_sub [1, 0] rfl ?_
    exact b_X8_work_17 B N N _ _ h
  · have h := if_f h q2
    refine g_iconst (v := (-1 : Int32)) B dX8_work_9 (by decide) ?_
    obtain ⟨rfl, rfl⟩ := some_e h
    exact g_iret B dX8_work_10

def rm_X1_readInto : Room := { frames := 9, cells := 0, slots := 0, locals := 193 }
def f_X1_readInto_28 (cs : List (Nat × Nat)) (N : Nat)  : Nat → Nat → Int32 → HS → Option (Int32 × HS)
  | 0, _, _, _ => none
  | n + 1, k1, v2, S =>
    if (24 : Int32) < v2 then (
      some ((1 : Int32), S))
    else (
      ck (mc cs 8 0) (
      ck (mc cs 9 0) (
      if (gi S 9 0 1) = (1 : Int32) then (
        some ((1 : Int32), S))
      else (
        ob (f_X1_readLine cs N k1 S) (fun r5 S6 =>
        if r5 = 0 then (
          some ((0 : Int32), S6))
        else (
          lt_ (v2 + (1 : Int32)) (fun x9 =>
          f_X1_readInto_28 cs N n k1 x9 S6)))))))
set_option maxHeartbeats 4000000 in
set_option maxRecDepth 100000 in
theorem b_X1_readInto_28 {p : Program} {l : Launch} {e : Env} {s : State} {m : MethodId} {args : Array Value} {below : List Frame} {meth : Method} {c : Code} {D : va_G} {cy : Nat → ClassId} {cs : List (Nat × Nat)} {ad : Nat → Nat → Nat} {r : Int32} {Z : HS} (B : Bd p s m args meth c D cy cs ad (gZ cs ad) cX1_readInto 3 RX1 (some .boolean)) (N : Nat)  : ∀ (n : Nat) (k1 : Nat) (v2 : Int32) (S : HS), f_X1_readInto_28 cs N n k1 v2 S = some (r, Z) → GW p l e rm_X1_readInto s m args below meth c (QM below args s D cy cs ad (some (.int r)) Z) D cy cs ad 0 0 3 28 [(0, .ref (ad 8 0)), (1, .ref (ad 20 k1)), (2, .int v2)] [] S := by
  have hA := B.2.2.2.2.2.2.1
  have hZ := B.2.2.2.2.2.2.2.2.2.2
  intro n
  induction n with
  | zero => intro k1 v2 S h; cases h
  | succ n ih =>
    intro k1 v2 S h
    rw [f_X1_readInto_28] at h
    refine g_iload_n B dX1_readInto_28 2 rfl rfl ?_
    refine g_bipush (v := (24 : Int32)) B dX1_readInto_29 (by decide) ?_
    refine g_icmp_gt B 61 dX1_readInto_31 (by decide) (fun q1 => ?_) (fun q1 => ?_)
    · have h := if_t h q1
      refine g_iconst (v := (1 : Int32)) B dX1_readInto_61 (by decide) ?_
      obtain ⟨rfl, rfl⟩ := some_e h
      exact g_zret B (by decide) dX1_readInto_62
    · have h := if_f h q1
      refine g_aload_n B dX1_readInto_34 0 rfl rfl ?_
      obtain ⟨m2, h⟩ := ck_e h
      refine gt_X1_0 B m2 kf_X1_12 dX1_readInto_35 ?_
      obtain ⟨m3, h⟩ := ck_e h
      refine gt_X7_1 B m3 kf_X1_40 dX1_readInto_38 ?_
      refine g_iconst (v := (1 : Int32)) B dX1_readInto_41 (by decide) ?_
      refine g_icmp_eq B 61 dX1_readInto_42 (by decide) (fun q4 => ?_) (fun q4 => ?_)
      · have h := if_t h q4
        refine g_iconst (v := (1 : Int32)) B dX1_readInto_61 (by decide) ?_
        obtain ⟨rfl, rfl⟩ := some_e h
        exact g_zret B (by decide) dX1_readInto_62
      · have h := if_f h q4
        refine g_aload_n B dX1_readInto_45 0 rfl rfl ?_
        refine g_aload_n B dX1_readInto_46 1 rfl rfl ?_
        obtain ⟨r5, S6, e7, h⟩ := ob_e h
        refine g_cvi (rest := []) B (c_X1_readLine hA N _ _ _ _ e7) mf_X1_readLine km_X1_43 ⟨by decide, by decide⟩ ⟨rfl, rfl⟩ m2 rfl rfl rfl rfl (Nat.le_of_ble_eq_true rfl) ⟨Nat.zero_le _, Nat.zero_le _⟩ dX1_readInto_47 ?_
        refine g_if_ne B 55 dX1_readInto_50 (by decide) (fun q8 => ?_) (fun q8 => ?_)
        · have h := if_f h q8
          obtain ⟨x9, e10, h⟩ := lt_e h
          refine g_iinc (v := x9) (lv' := [(2, .int x9), (0, .ref (ad 8 0)), (1, .ref (ad 20 k1))]) B dX1_readInto_55 (k := 2) rfl (by rw [e10]; rfl) (by decide) rfl ?_
          refine g_goto B 28 dX1_readInto_58 (by decide) ?_
          refine g_sub [1, 2, 0] rfl ?_
          exact ih _ _ _ h
        · have h := if_t h q8
          refine g_iconst (v := (0 : Int32)) B dX1_readInto_53 (by decide) ?_
          obtain ⟨rfl, rfl⟩ := some_e h
          exact g_zret B (by decide) dX1_readInto_54
def f_X1_readInto (cs : List (Nat × Nat)) (N : Nat) (a1 : Nat) (S : HS) : Option (Int32 × HS) :=
  ck (mc cs 8 0) (
  lt_ (ui S 8 0 1 (0 : Int32)) (fun S2 =>
  lt_ (ui S2 8 0 2 (0 : Int32)) (fun S4 =>
  lt_ (ui S4 8 0 3 (-1 : Int32)) (fun S6 =>
  ck (mc cs 20 a1) (
  ob (f_X5_forget cs N a1 S6) (fun r9 S10 =>
  ck (mc cs 9 0) (
  ob (f_X7_rewind cs N  S10) (fun r13 S14 =>
  f_X1_readInto_28 cs N N a1 (0 : Int32) S14))))))))
set_option maxHeartbeats 4000000 in
set_option maxRecDepth 100000 in
theorem c_X1_readInto {l : Launch} {D : va_G} {cy : Nat → ClassId} {cs : List (Nat × Nat)} {ad : Nat → Nat → Nat} (hA : AdOk cs ad) (N : Nat) (a1 : Nat) (S : HS) (r : Int32) (Z : HS) (h : f_X1_readInto cs N a1 S = some (r, Z)) : Ctr (gZ cs ad) l yX1_readInto cX1_readInto 3 (some .boolean) rm_X1_readInto D cy cs ad [.ref (ad 8 0), .ref (ad 20 a1)] S (some (.int r)) Z := by
  have hZ := gZ_ok cs ad
  unfold f_X1_readInto at h
  refine Ctr.of hA (gZ_ok cs ad) RX1 (plainFor_of_name (by decide)) rfl [(0, .ref (ad 8 0)), (1, .ref (ad 20 a1))] rfl (Nat.le_of_ble_eq_true rfl) (fun p e s m below meth c B => ?_)
  refine g_aload_n B dX1_readInto_0 0 rfl rfl ?_
  refine g_iconst (v := (0 : Int32)) B dX1_readInto_1 (by decide) ?_
  obtain ⟨m1, h⟩ := ck_e h
  obtain ⟨S2, e3, h⟩ := lt_e h
  refine pt_X1_1 B m1 kf_X1_26 e3 dX1_readInto_2 ?_
  refine g_aload_n B dX1_readInto_5 0 rfl rfl ?_
  refine g_iconst (v := (0 : Int32)) B dX1_readInto_6 (by decide) ?_
  obtain ⟨S4, e5, h⟩ := lt_e h
  refine pt_X1_2 B m1 kf_X1_29 e5 dX1_readInto_7 ?_
  refine g_aload_n B dX1_readInto_10 0 rfl rfl ?_
  refine g_iconst (v := (-1 : Int32)) B dX1_readInto_11 (by decide) ?_
  obtain ⟨S6, e7, h⟩ := lt_e h
  refine pt_X1_3 B m1 kf_X1_18 e7 dX1_readInto_12 ?_
  refine g_aload_n B dX1_readInto_15 1 rfl rfl ?_
  obtain ⟨m8, h⟩ := ck_e h
  obtain ⟨r9, S10, e11, h⟩ := ob_e h
  refine g_cvv (rest := []) B (c_X5_forget hA hZ N _ _ _ _ e11) mf_X5_forget km_X1_32 ⟨by decide, by decide⟩ ⟨rfl, rfl⟩ m8 rfl rfl rfl rfl (Nat.le_of_ble_eq_true rfl) ⟨Nat.zero_le _, Nat.zero_le _⟩ dX1_readInto_16 ?_
  refine g_aload_n B dX1_readInto_19 0 rfl rfl ?_
  refine gt_X1_0 B m1 kf_X1_12 dX1_readInto_20 ?_
  obtain ⟨m12, h⟩ := ck_e h
  obtain ⟨r13, S14, e15, h⟩ := ob_e h
  refine g_cvv (rest := []) B (c_X7_rewind hA N  _ _ _ e15) mf_X7_rewind km_X1_37 ⟨by decide, by decide⟩ ⟨rfl, rfl⟩ m12 rfl rfl rfl rfl (Nat.le_of_ble_eq_true rfl) ⟨Nat.zero_le _, Nat.zero_le _⟩ dX1_readInto_23 ?_
  refine g_iconst (v := (0 : Int32)) B dX1_readInto_26 (by decide) ?_
  refine g_istore_n (lv' := [(2, .int (0 : Int32)), (0, .ref (ad 8 0)), (1, .ref (ad 20 a1))]) B dX1_readInto_27 rfl (by decide) rfl ?_
  refine g_sub [1, 2, 0] rfl ?_
  exact b_X1_readInto_28 B N N _ _ _ h

def rm_X8_custom : Room := { frames := 10, cells := 0, slots := 0, locals := 215 }
def f_X8_custom (cs : List (Nat × Nat)) (N : Nat)  (S : HS) : Option (Int32 × HS) :=
  ck (mc cs 0 0) (
  ck (mc cs 8 0) (
  ob (f_X1_readInto cs N ((gi S 0 0 6).toNatClampNeg) S) (fun r3 S4 =>
  ck (mc cs 9 0) (
  lt_ (ui S4 9 0 0 (0 : Int32)) (fun S7 =>
  if r3 = 0 then (
    some ((-1 : Int32), S7))
  else (
    ck (decide ((nI ((gi S7 0 0 6).toNatClampNeg)).toNatClampNeg = ((gi S7 0 0 6).toNatClampNeg))) (
    lt_ (ui S7 0 0 5 (nI ((gi S7 0 0 6).toNatClampNeg))) (fun S11 =>
    ck (decide ((nI ((gi S7 0 0 5).toNatClampNeg)).toNatClampNeg = ((gi S7 0 0 5).toNatClampNeg))) (
    lt_ (ui S11 0 0 6 (nI ((gi S7 0 0 5).toNatClampNeg))) (fun S14 =>
    lt_ (ui S14 0 0 7 (0 : Int32)) (fun S16 =>
    some ((gi S16 8 0 1), S16))))))))))))
set_option maxHeartbeats 4000000 in
set_option maxRecDepth 100000 in
theorem c_X8_custom {l : Launch} {D : va_G} {cy : Nat → ClassId} {cs : List (Nat × Nat)} {ad : Nat → Nat → Nat} (hA : AdOk cs ad) (N : Nat)  (S : HS) (r : Int32) (Z : HS) (h : f_X8_custom cs N  S = some (r, Z)) : Ctr (gZ cs ad) l yX8_custom cX8_custom 3 (some .int) rm_X8_custom D cy cs ad [.ref (ad 0 0)] S (some (.int r)) Z := by
  have hZ := gZ_ok cs ad
  unfold f_X8_custom at h
  refine Ctr.of hA (gZ_ok cs ad) RX8 (plainFor_of_name (by decide)) rfl [(0, .ref (ad 0 0))] rfl (Nat.le_of_ble_eq_true rfl) (fun p e s m below meth c B => ?_)
  refine g_aload_n B dX8_custom_0 0 rfl rfl ?_
  obtain ⟨m1, h⟩ := ck_e h
  refine gt_X8_3 B m1 kf_X8_30 dX8_custom_1 ?_
  refine g_aload_n B dX8_custom_4 0 rfl rfl ?_
  refine gt_X8_6 B m1 kf_X8_48 dX8_custom_5 ?_
  obtain ⟨m2, h⟩ := ck_e h
  obtain ⟨r3, S4, e5, h⟩ := ob_e h
  refine g_cvi (rest := []) B (c_X1_readInto hA N _ _ _ _ e5) mf_X1_readInto km_X8_129 ⟨by decide, by decide⟩ ⟨rfl, rfl⟩ m2 rfl rfl rfl rfl (Nat.le_of_ble_eq_true rfl) ⟨Nat.zero_le _, Nat.zero_le _⟩ dX8_custom_8 ?_
  refine g_istore_n (lv' := [(1, .int r3), (0, .ref (ad 0 0))]) B dX8_custom_11 rfl (by decide) rfl ?_
  refine g_aload_n B dX8_custom_12 1 rfl rfl ?_
  refine gt_X8_3 B m1 kf_X8_30 dX8_custom_13 ?_
  refine gt_X1_0 B m2 kf_X8_117 dX8_custom_16 ?_
  refine g_iconst (v := (0 : Int32)) B dX8_custom_19 (by decide) ?_
  obtain ⟨m6, h⟩ := ck_e h
  obtain ⟨S7, e8, h⟩ := lt_e h
  refine pt_X7_0 B m6 kf_X8_121 e8 dX8_custom_20 ?_
  refine g_iload_n B dX8_custom_23 0 rfl rfl ?_
  refine g_if_ne B 29 dX8_custom_24 (by decide) (fun q9 => ?_) (fun q9 => ?_)
  · have h := if_f h q9
    refine g_aload_n B dX8_custom_29 1 rfl rfl ?_
    refine gt_X8_5 B m1 kf_X8_44 dX8_custom_30 ?_
    refine g_astore_n (lv' := [(2, .ref (ad 20 ((gi S7 0 0 5).toNatClampNeg))), (1, .int r3), (0, .ref (ad 0 0))]) B dX8_custom_33 rfl (by decide) rfl ?_
    refine g_aload_n B dX8_custom_34 2 rfl rfl ?_
    refine g_aload_n B dX8_custom_35 2 rfl rfl ?_
    refine gt_X8_6 B m1 kf_X8_48 dX8_custom_36 ?_
    obtain ⟨b10, h⟩ := ck_e h
    obtain ⟨S11, e12, h⟩ := lt_e h
    refine pt_X8_5 B m1 kf_X8_44 (of_decide_eq_true b10) e12 dX8_custom_39 ?_
    refine g_aload_n B dX8_custom_42 2 rfl rfl ?_
    refine g_aload_n B dX8_custom_43 0 rfl rfl ?_
    obtain ⟨b13, h⟩ := ck_e h
    obtain ⟨S14, e15, h⟩ := lt_e h
    refine pt_X8_6 B m1 kf_X8_48 (of_decide_eq_true b13) e15 dX8_custom_44 ?_
    refine g_aload_n B dX8_custom_47 2 rfl rfl ?_
    refine g_iconst (v := (0 : Int32)) B dX8_custom_48 (by decide) ?_
    obtain ⟨S16, e17, h⟩ := lt_e h
    refine pt_X8_7 B m1 kf_X8_71 (by decide) e17 dX8_custom_49 ?_
    refine g_aload_n B dX8_custom_52 2 rfl rfl ?_
    refine gt_X8_3 B m1 kf_X8_30 dX8_custom_53 ?_
    refine gt_X1_1 B m2 kf_X8_133 dX8_custom_56 ?_
    obtain ⟨rfl, rfl⟩ := some_e h
    exact g_iret B dX8_custom_59
  · have h := if_t h q9
    refine g_iconst (v := (-1 : Int32)) B dX8_custom_27 (by decide) ?_
    obtain ⟨rfl, rfl⟩ := some_e h
    exact g_iret B dX8_custom_28
