def rm_J9_max_7cf53 : Room := { frames := 0, cells := 0, slots := 0, locals := 0 }
def f_J9_max_7cf53 (cs : List (Nat × Nat)) (N : Nat) (a1 : Int32) (a2 : Int32) (S : HS) : Option (Int32 × HS) :=
  if a1 < a2 then (
    some (a2, S))
  else (
    some (a1, S))
set_option maxHeartbeats 4000000 in
set_option maxRecDepth 100000 in
theorem c_J9_max_7cf53 {l : Launch} {D : va_G} {cy : Nat → ClassId} {cs : List (Nat × Nat)} {ad : Nat → Nat → Nat} (hA : AdOk cs ad) (N : Nat) (a1 : Int32) (a2 : Int32) (S : HS) (r : Int32) (Z : HS) (h : f_J9_max_7cf53 cs N a1 a2 S = some (r, Z)) : Ctr l yJ9_max_7cf53 cJ9_max_7cf53 2 (some .int) rm_J9_max_7cf53 D cy cs ad [.int a1, .int a2] S (some (.int r)) Z := by
  unfold f_J9_max_7cf53 at h
  refine Ctr.of hA RJ9 (by decide +kernel) rfl [(0, .int a1), (1, .int a2)] rfl (Nat.le_of_ble_eq_true rfl) (fun p e s m below meth c B => ?_)
  refine g_iload_n B dJ9_max_7cf53_0 0 rfl rfl ?_
  refine g_iload_n B dJ9_max_7cf53_1 1 rfl rfl ?_
  refine g_icmp_lt B 9 dJ9_max_7cf53_2 (by decide) (fun q1 => ?_) (fun q1 => ?_)
  · have h := if_t h q1
    refine g_iload_n B dJ9_max_7cf53_9 1 rfl rfl ?_
    obtain ⟨rfl, rfl⟩ := some_e h
    exact g_iret B dJ9_max_7cf53_10
  · have h := if_f h q1
    refine g_iload_n B dJ9_max_7cf53_5 0 rfl rfl ?_
    refine g_goto B 10 dJ9_max_7cf53_6 (by decide) ?_
    obtain ⟨rfl, rfl⟩ := some_e h
    exact g_iret B dJ9_max_7cf53_10

def rm_J9_min_7cf53 : Room := { frames := 0, cells := 0, slots := 0, locals := 0 }
def f_J9_min_7cf53 (cs : List (Nat × Nat)) (N : Nat) (a1 : Int32) (a2 : Int32) (S : HS) : Option (Int32 × HS) :=
  if a2 < a1 then (
    some (a2, S))
  else (
    some (a1, S))
set_option maxHeartbeats 4000000 in
set_option maxRecDepth 100000 in
theorem c_J9_min_7cf53 {l : Launch} {D : va_G} {cy : Nat → ClassId} {cs : List (Nat × Nat)} {ad : Nat → Nat → Nat} (hA : AdOk cs ad) (N : Nat) (a1 : Int32) (a2 : Int32) (S : HS) (r : Int32) (Z : HS) (h : f_J9_min_7cf53 cs N a1 a2 S = some (r, Z)) : Ctr l yJ9_min_7cf53 cJ9_min_7cf53 2 (some .int) rm_J9_min_7cf53 D cy cs ad [.int a1, .int a2] S (some (.int r)) Z := by
  unfold f_J9_min_7cf53 at h
  refine Ctr.of hA RJ9 (by decide +kernel) rfl [(0, .int a1), (1, .int a2)] rfl (Nat.le_of_ble_eq_true rfl) (fun p e s m below meth c B => ?_)
  refine g_iload_n B dJ9_min_7cf53_0 0 rfl rfl ?_
  refine g_iload_n B dJ9_min_7cf53_1 1 rfl rfl ?_
  refine g_icmp_gt B 9 dJ9_min_7cf53_2 (by decide) (fun q1 => ?_) (fun q1 => ?_)
  · have h := if_t h q1
    refine g_iload_n B dJ9_min_7cf53_9 1 rfl rfl ?_
    obtain ⟨rfl, rfl⟩ := some_e h
    exact g_iret B dJ9_min_7cf53_10
  · have h := if_f h q1
    refine g_iload_n B dJ9_min_7cf53_5 0 rfl rfl ?_
    refine g_goto B 10 dJ9_min_7cf53_6 (by decide) ?_
    obtain ⟨rfl, rfl⟩ := some_e h
    exact g_iret B dJ9_min_7cf53_10

def rm_J3_checkIndex_8e157 : Room := { frames := 0, cells := 0, slots := 0, locals := 0 }
def f_J3_checkIndex_8e157_9 (cs : List (Nat × Nat)) (N : Nat)  (v0 : Int32) (v1 : Int32) (S : HS) : Option (Int32 × HS) :=
  none
set_option maxHeartbeats 4000000 in
set_option maxRecDepth 100000 in
theorem b_J3_checkIndex_8e157_9 {p : Program} {l : Launch} {e : Env} {s : State} {m : MethodId} {args : Array Value} {below : List Frame} {meth : Method} {c : Code} {D : va_G} {cy : Nat → ClassId} {cs : List (Nat × Nat)} {ad : Nat → Nat → Nat} {r : Int32} {Z : HS} (B : Bd p s m args meth c D cy cs ad cJ3_checkIndex_8e157 3 RJ3 (some .int)) (N : Nat)  (v0 : Int32) (v1 : Int32) (S : HS) (h : f_J3_checkIndex_8e157_9 cs N v0 v1 S = some (r, Z)) : GW p l e rm_J3_checkIndex_8e157 s m args below meth c (QM below args s D cy cs ad (some (.int r)) Z) D cy cs ad 3 9 [(0, .int v0), (1, .int v1), (2, (fmtv ad))] [] S := by
  have hA := B.2.2.2.2.2.2.1
  unfold f_J3_checkIndex_8e157_9 at h
  refine g_aload_n B dJ3_checkIndex_8e157_9 2 rfl rfl ?_
  refine g_iload_n B dJ3_checkIndex_8e157_10 0 rfl rfl ?_
  refine g_iload_n B dJ3_checkIndex_8e157_11 1 rfl rfl ?_
  cases h
def f_J3_checkIndex_8e157 (cs : List (Nat × Nat)) (N : Nat) (a1 : Int32) (a2 : Int32) (S : HS) : Option (Int32 × HS) :=
  if a1 < 0 then (
    f_J3_checkIndex_8e157_9 cs N a1 a2 S)
  else (
    if a1 < a2 then (
      some (a1, S))
    else (
      f_J3_checkIndex_8e157_9 cs N a1 a2 S))
set_option maxHeartbeats 4000000 in
set_option maxRecDepth 100000 in
theorem c_J3_checkIndex_8e157 {l : Launch} {D : va_G} {cy : Nat → ClassId} {cs : List (Nat × Nat)} {ad : Nat → Nat → Nat} (hA : AdOk cs ad) (N : Nat) (a1 : Int32) (a2 : Int32) (S : HS) (r : Int32) (Z : HS) (h : f_J3_checkIndex_8e157 cs N a1 a2 S = some (r, Z)) : Ctr l yJ3_checkIndex_8e157 cJ3_checkIndex_8e157 3 (some .int) rm_J3_checkIndex_8e157 D cy cs ad [.int a1, .int a2, (fmtv ad)] S (some (.int r)) Z := by
  unfold f_J3_checkIndex_8e157 at h
  refine Ctr.of hA RJ3 (plainFor_of_name (by decide)) rfl [(0, .int a1), (1, .int a2), (2, (fmtv ad))] rfl (Nat.le_of_ble_eq_true rfl) (fun p e s m below meth c B => ?_)
  refine g_iload_n B dJ3_checkIndex_8e157_0 0 rfl rfl ?_
  refine g_if_lt B 9 dJ3_checkIndex_8e157_1 (by decide) (fun q1 => ?_) (fun q1 => ?_)
  · have h := if_t h q1
    exact b_J3_checkIndex_8e157_9 B N _ _ _ h
  · have h := if_f h q1
    refine g_iload_n B dJ3_checkIndex_8e157_4 0 rfl rfl ?_
    refine g_iload_n B dJ3_checkIndex_8e157_5 1 rfl rfl ?_
    refine g_icmp_lt B 16 dJ3_checkIndex_8e157_6 (by decide) (fun q2 => ?_) (fun q2 => ?_)
    · have h := if_t h q2
      refine g_iload_n B dJ3_checkIndex_8e157_16 0 rfl rfl ?_
      obtain ⟨rfl, rfl⟩ := some_e h
      exact g_iret B dJ3_checkIndex_8e157_17
    · have h := if_f h q2
      exact b_J3_checkIndex_8e157_9 B N _ _ _ h

def rm_J0_checkIndex_df160 : Room := { frames := 1, cells := 0, slots := 0, locals := 22 }
def f_J0_checkIndex_df160 (cs : List (Nat × Nat)) (N : Nat) (a1 : Int32) (a2 : Int32) (S : HS) : Option (Unit × HS) :=
  ob (f_J3_checkIndex_8e157 cs N a1 a2 S) (fun r1 S2 =>
  some ((), S2))
set_option maxHeartbeats 4000000 in
set_option maxRecDepth 100000 in
theorem c_J0_checkIndex_df160 {l : Launch} {D : va_G} {cy : Nat → ClassId} {cs : List (Nat × Nat)} {ad : Nat → Nat → Nat} (hA : AdOk cs ad) (N : Nat) (a1 : Int32) (a2 : Int32) (S : HS) (r : Unit) (Z : HS) (h : f_J0_checkIndex_df160 cs N a1 a2 S = some (r, Z)) : Ctr l yJ0_checkIndex_df160 cJ0_checkIndex_df160 2 none rm_J0_checkIndex_df160 D cy cs ad [.int a1, .int a2] S (none) Z := by
  unfold f_J0_checkIndex_df160 at h
  refine Ctr.of hA RJ0 (plainFor_of_name (by decide)) rfl [(0, .int a1), (1, .int a2)] rfl (Nat.le_of_ble_eq_true rfl) (fun p e s m below meth c B => ?_)
  refine g_iload_n B dJ0_checkIndex_df160_0 0 rfl rfl ?_
  refine g_iload_n B dJ0_checkIndex_df160_1 1 rfl rfl ?_
  refine g_gfm B kf_J0_1053 dJ0_checkIndex_df160_2 ?_
  obtain ⟨r1, S2, e3, h⟩ := ob_e h
  refine g_csi (rest := []) B (c_J3_checkIndex_8e157 hA N _ _ _ _ _ e3) mf_J3_checkIndex_8e157 km_J0_1059 ⟨by decide, by decide⟩ ⟨rfl, rfl⟩ rfl rfl (Nat.le_of_ble_eq_true rfl) dJ0_checkIndex_df160_5 ?_
  refine g_pop B dJ0_checkIndex_df160_8 rfl ?_
  obtain ⟨-, rfl⟩ := some_e h
  exact g_vret B dJ0_checkIndex_df160_9

def rm_J0_coder_7d493 : Room := { frames := 0, cells := 0, slots := 0, locals := 0 }
def f_J0_coder_7d493 (cs : List (Nat × Nat)) (N : Nat) (k : Nat) (S : HS) : Option (Int32 × HS) :=
  if (1 : Int32) = 0 then (
    some ((1 : Int32), S))
  else (
    ck (decide (k < 8)) (
    some ((0 : Int32), S)))
set_option maxHeartbeats 4000000 in
set_option maxRecDepth 100000 in
theorem c_J0_coder_7d493 {l : Launch} {D : va_G} {cy : Nat → ClassId} {cs : List (Nat × Nat)} {ad : Nat → Nat → Nat} (hA : AdOk cs ad) (N : Nat) (k : Nat) (S : HS) (r : Int32) (Z : HS) (h : f_J0_coder_7d493 cs N k S = some (r, Z)) : Ctr l yJ0_coder_7d493 cJ0_coder_7d493 1 (some .byte) rm_J0_coder_7d493 D cy cs ad [.ref (ad 41 k)] S (some (.int r)) Z := by
  unfold f_J0_coder_7d493 at h
  refine Ctr.of hA RJ0 (plainFor_of_name (by decide)) rfl [(0, .ref (ad 41 k))] rfl (Nat.le_of_ble_eq_true rfl) (fun p e s m below meth c B => ?_)
  refine g_gcs B kf_J0_38 dJ0_coder_7d493_0 ?_
  refine g_if_eq B 13 dJ0_coder_7d493_3 (by decide) (fun q1 => ?_) (fun q1 => ?_)
  · have h := if_t h q1
    refine g_iconst (v := (1 : Int32)) B dJ0_coder_7d493_13 (by decide) ?_
    obtain ⟨rfl, rfl⟩ := some_e h
    exact g_nret B (by decide) dJ0_coder_7d493_14
  · have h := if_f h q1
    refine g_aload_n B dJ0_coder_7d493_6 0 rfl rfl ?_
    obtain ⟨m2, h⟩ := ck_e h
    have m2 := of_decide_eq_true m2
    refine g_kcod B m2 kf_J0_15 dJ0_coder_7d493_7 ?_
    refine g_goto B 14 dJ0_coder_7d493_10 (by decide) ?_
    obtain ⟨rfl, rfl⟩ := some_e h
    exact g_nret B (by decide) dJ0_coder_7d493_14

def rm_J0_isLatin1_aae02 : Room := { frames := 0, cells := 0, slots := 0, locals := 0 }
def f_J0_isLatin1_aae02 (cs : List (Nat × Nat)) (N : Nat) (k : Nat) (S : HS) : Option (Int32 × HS) :=
  if (1 : Int32) = 0 then (
    some ((0 : Int32), S))
  else (
    ck (decide (k < 8)) (
    if (0 : Int32) = 0 then (
      some ((1 : Int32), S))
    else (
      some ((0 : Int32), S))))
set_option maxHeartbeats 4000000 in
set_option maxRecDepth 100000 in
theorem c_J0_isLatin1_aae02 {l : Launch} {D : va_G} {cy : Nat → ClassId} {cs : List (Nat × Nat)} {ad : Nat → Nat → Nat} (hA : AdOk cs ad) (N : Nat) (k : Nat) (S : HS) (r : Int32) (Z : HS) (h : f_J0_isLatin1_aae02 cs N k S = some (r, Z)) : Ctr l yJ0_isLatin1_aae02 cJ0_isLatin1_aae02 1 (some .boolean) rm_J0_isLatin1_aae02 D cy cs ad [.ref (ad 41 k)] S (some (.int r)) Z := by
  unfold f_J0_isLatin1_aae02 at h
  refine Ctr.of hA RJ0 (plainFor_of_name (by decide)) rfl [(0, .ref (ad 41 k))] rfl (Nat.le_of_ble_eq_true rfl) (fun p e s m below meth c B => ?_)
  refine g_gcs B kf_J0_38 dJ0_isLatin1_aae02_0 ?_
  refine g_if_eq B 17 dJ0_isLatin1_aae02_3 (by decide) (fun q1 => ?_) (fun q1 => ?_)
  · have h := if_t h q1
    refine g_iconst (v := (0 : Int32)) B dJ0_isLatin1_aae02_17 (by decide) ?_
    obtain ⟨rfl, rfl⟩ := some_e h
    exact g_zret B (by decide) dJ0_isLatin1_aae02_18
  · have h := if_f h q1
    refine g_aload_n B dJ0_isLatin1_aae02_6 0 rfl rfl ?_
    obtain ⟨m2, h⟩ := ck_e h
    have m2 := of_decide_eq_true m2
    refine g_kcod B m2 kf_J0_15 dJ0_isLatin1_aae02_7 ?_
    refine g_if_ne B 17 dJ0_isLatin1_aae02_10 (by decide) (fun q3 => ?_) (fun q3 => ?_)
    · have h := if_f h q3
      refine g_iconst (v := (0 : Int32)) B dJ0_isLatin1_aae02_17 (by decide) ?_
      obtain ⟨rfl, rfl⟩ := some_e h
      exact g_zret B (by decide) dJ0_isLatin1_aae02_18
    · have h := if_t h q3
      refine g_iconst (v := (1 : Int32)) B dJ0_isLatin1_aae02_13 (by decide) ?_
      refine g_goto B 18 dJ0_isLatin1_aae02_14 (by decide) ?_
      obtain ⟨rfl, rfl⟩ := some_e h
      exact g_zret B (by decide) dJ0_isLatin1_aae02_18

def rm_J0_length_8abf5 : Room := { frames := 1, cells := 0, slots := 0, locals := 20 }
def f_J0_length_8abf5 (cs : List (Nat × Nat)) (N : Nat) (k : Nat) (S : HS) : Option (Int32 × HS) :=
  ck (decide (k < 8)) (
  ob (f_J0_coder_7d493 cs N k S) (fun r2 S3 =>
  some (((nI (lenK.getD k 0)) >>> (r2 &&& 31)), S3)))
set_option maxHeartbeats 4000000 in
set_option maxRecDepth 100000 in
theorem c_J0_length_8abf5 {l : Launch} {D : va_G} {cy : Nat → ClassId} {cs : List (Nat × Nat)} {ad : Nat → Nat → Nat} (hA : AdOk cs ad) (N : Nat) (k : Nat) (S : HS) (r : Int32) (Z : HS) (h : f_J0_length_8abf5 cs N k S = some (r, Z)) : Ctr l yJ0_length_8abf5 cJ0_length_8abf5 1 (some .int) rm_J0_length_8abf5 D cy cs ad [.ref (ad 41 k)] S (some (.int r)) Z := by
  unfold f_J0_length_8abf5 at h
  refine Ctr.of hA RJ0 (plainFor_of_name (by decide)) rfl [(0, .ref (ad 41 k))] rfl (Nat.le_of_ble_eq_true rfl) (fun p e s m below meth c B => ?_)
  refine g_aload_n B dJ0_length_8abf5_0 0 rfl rfl ?_
  obtain ⟨m1, h⟩ := ck_e h
  have m1 := of_decide_eq_true m1
  refine g_kval B m1 kf_J0_9 dJ0_length_8abf5_1 ?_
  refine g_klen B m1 dJ0_length_8abf5_4 ?_
  refine g_aload_n B dJ0_length_8abf5_5 0 rfl rfl ?_
  obtain ⟨r2, S3, e4, h⟩ := ob_e h
  refine g_cvk (rest := [.int (nI (lenK.getD k 0))]) B (c_J0_coder_7d493 hA N _ _ _ _ e4) mf_J0_coder_7d493 km_J0_335 ⟨by decide, by decide⟩ ⟨rfl, rfl⟩ m1 rfl rfl (Nat.le_of_ble_eq_true rfl) dJ0_length_8abf5_6 ?_
  refine g_ishr B dJ0_length_8abf5_9 ?_
  obtain ⟨rfl, rfl⟩ := some_e h
  exact g_iret B dJ0_length_8abf5_10

def rm_J1_charAt_3b067 : Room := { frames := 2, cells := 0, slots := 0, locals := 43 }
def f_J1_charAt_3b067 (cs : List (Nat × Nat)) (N : Nat) (a1 : Nat) (a2 : Int32) (S : HS) : Option (Int32 × HS) :=
  ck (decide (a1 < 8)) (
  ob (f_J0_checkIndex_df160 cs N a2 (nI (lenK.getD a1 0)) S) (fun r2 S3 =>
  ck (inb a2 (lenK.getD a1 0)) (
  ck (c16 (((((bytK.getD a1 []).getD a2.toNatClampNeg 0) &&& (255 : Int32)).toUInt32 % 65536).toInt32)) (
  some (((((bytK.getD a1 []).getD a2.toNatClampNeg 0) &&& (255 : Int32)).toUInt32 % 65536).toInt32, S3)))))
set_option maxHeartbeats 4000000 in
set_option maxRecDepth 100000 in
theorem c_J1_charAt_3b067 {l : Launch} {D : va_G} {cy : Nat → ClassId} {cs : List (Nat × Nat)} {ad : Nat → Nat → Nat} (hA : AdOk cs ad) (N : Nat) (a1 : Nat) (a2 : Int32) (S : HS) (r : Int32) (Z : HS) (h : f_J1_charAt_3b067 cs N a1 a2 S = some (r, Z)) : Ctr l yJ1_charAt_3b067 cJ1_charAt_3b067 2 (some .char) rm_J1_charAt_3b067 D cy cs ad [.ref (ad 42 a1), .int a2] S (some (.int r)) Z := by
  unfold f_J1_charAt_3b067 at h
  refine Ctr.of hA RJ1 (plainFor_of_name (by decide)) rfl [(0, .ref (ad 42 a1)), (1, .int a2)] rfl (Nat.le_of_ble_eq_true rfl) (fun p e s m below meth c B => ?_)
  refine g_iload_n B dJ1_charAt_3b067_0 1 rfl rfl ?_
  refine g_aload_n B dJ1_charAt_3b067_1 0 rfl rfl ?_
  obtain ⟨m1, h⟩ := ck_e h
  have m1 := of_decide_eq_true m1
  refine g_klen B m1 dJ1_charAt_3b067_2 ?_
  obtain ⟨r2, S3, e4, h⟩ := ob_e h
  refine g_csv (rest := []) B (c_J0_checkIndex_df160 hA N _ _ _ _ _ e4) mf_J0_checkIndex_df160 km_J1_9 ⟨by decide, by decide⟩ ⟨rfl, rfl⟩ rfl rfl (Nat.le_of_ble_eq_true rfl) dJ1_charAt_3b067_3 ?_
  refine g_aload_n B dJ1_charAt_3b067_6 0 rfl rfl ?_
  refine g_iload_n B dJ1_charAt_3b067_7 1 rfl rfl ?_
  obtain ⟨b5, h⟩ := ck_e h
  refine g_kld B m1 b5 dJ1_charAt_3b067_8 ?_
  refine g_sipush (v := (255 : Int32)) B dJ1_charAt_3b067_9 (by decide) ?_
  refine g_iand B dJ1_charAt_3b067_12 ?_
  refine g_i2c B dJ1_charAt_3b067_13 ?_
  obtain ⟨b6, h⟩ := ck_e h
  obtain ⟨rfl, rfl⟩ := some_e h
  exact g_nret B (c16_n b6) dJ1_charAt_3b067_14

def rm_J0_charAt_5068e : Room := { frames := 3, cells := 0, slots := 0, locals := 64 }
def f_J0_charAt_5068e (cs : List (Nat × Nat)) (N : Nat) (k : Nat) (a1 : Int32) (S : HS) : Option (Int32 × HS) :=
  ck (decide (k < 8)) (
  ob (f_J0_isLatin1_aae02 cs N k S) (fun r2 S3 =>
  if r2 = 0 then (
    none)
  else (
    ob (f_J1_charAt_3b067 cs N k a1 S3) (fun r6 S7 =>
    ck (c16 r6) (
    some (r6, S7))))))
set_option maxHeartbeats 4000000 in
set_option maxRecDepth 100000 in
theorem c_J0_charAt_5068e {l : Launch} {D : va_G} {cy : Nat → ClassId} {cs : List (Nat × Nat)} {ad : Nat → Nat → Nat} (hA : AdOk cs ad) (N : Nat) (k : Nat) (a1 : Int32) (S : HS) (r : Int32) (Z : HS) (h : f_J0_charAt_5068e cs N k a1 S = some (r, Z)) : Ctr l yJ0_charAt_5068e cJ0_charAt_5068e 2 (some .char) rm_J0_charAt_5068e D cy cs ad [.ref (ad 41 k), .int a1] S (some (.int r)) Z := by
  unfold f_J0_charAt_5068e at h
  refine Ctr.of hA RJ0 (plainFor_of_name (by decide)) rfl [(0, .ref (ad 41 k)), (1, .int a1)] rfl (Nat.le_of_ble_eq_true rfl) (fun p e s m below meth c B => ?_)
  refine g_aload_n B dJ0_charAt_5068e_0 0 rfl rfl ?_
  obtain ⟨m1, h⟩ := ck_e h
  have m1 := of_decide_eq_true m1
  obtain ⟨r2, S3, e4, h⟩ := ob_e h
  refine g_cvk (rest := []) B (c_J0_isLatin1_aae02 hA N _ _ _ _ e4) mf_J0_isLatin1_aae02 km_J0_492 ⟨by decide, by decide⟩ ⟨rfl, rfl⟩ m1 rfl rfl (Nat.le_of_ble_eq_true rfl) dJ0_charAt_5068e_1 ?_
  refine g_if_eq B 16 dJ0_charAt_5068e_4 (by decide) (fun q5 => ?_) (fun q5 => ?_)
  · have h := if_t h q5
    refine g_aload_n B dJ0_charAt_5068e_16 0 rfl rfl ?_
    refine g_kval B m1 kf_J0_9 dJ0_charAt_5068e_17 ?_
    refine g_iload_n B dJ0_charAt_5068e_20 1 rfl rfl ?_
    cases h
  · have h := if_f h q5
    refine g_aload_n B dJ0_charAt_5068e_7 0 rfl rfl ?_
    refine g_kval B m1 kf_J0_9 dJ0_charAt_5068e_8 ?_
    refine g_iload_n B dJ0_charAt_5068e_11 1 rfl rfl ?_
    obtain ⟨r6, S7, e8, h⟩ := ob_e h
    refine g_csi (rest := []) B (c_J1_charAt_3b067 hA N _ _ _ _ _ e8) mf_J1_charAt_3b067 km_J0_495 ⟨by decide, by decide⟩ ⟨rfl, rfl⟩ rfl rfl (Nat.le_of_ble_eq_true rfl) dJ0_charAt_5068e_12 ?_
    obtain ⟨b9, h⟩ := ck_e h
    obtain ⟨rfl, rfl⟩ := some_e h
    exact g_nret B (c16_n b9) dJ0_charAt_5068e_15

def rm_X1_formOf : Room := { frames := 0, cells := 0, slots := 0, locals := 0 }
def f_X1_formOf (cs : List (Nat × Nat)) (N : Nat) (a1 : Int32) (S : HS) : Option (Nat × HS) :=
  if a1 = (4 : Int32) then (
    some (0, S))
  else (
  if a1 = (6 : Int32) then (
    some (1, S))
  else (
  if a1 = (9 : Int32) then (
    some (2, S))
  else (
  some (3, S))))
set_option maxHeartbeats 4000000 in
set_option maxRecDepth 100000 in
theorem c_X1_formOf {l : Launch} {D : va_G} {cy : Nat → ClassId} {cs : List (Nat × Nat)} {ad : Nat → Nat → Nat} (hA : AdOk cs ad) (N : Nat) (a1 : Int32) (S : HS) (r : Nat) (Z : HS) (h : f_X1_formOf cs N a1 S = some (r, Z)) : Ctr l yX1_formOf cX1_formOf 1 (some (.array .int)) rm_X1_formOf D cy cs ad [.int a1] S (some (.ref (ad 40 r))) Z := by
  unfold f_X1_formOf at h
  refine Ctr.of hA RX1 (plainFor_of_name (by decide)) rfl [(0, .int a1)] rfl (Nat.le_of_ble_eq_true rfl) (fun p e s m below meth c B => ?_)
  refine g_iload_n B dX1_formOf_0 0 rfl rfl ?_
  by_cases q1 : a1 = (4 : Int32)
  · have h := if_t h q1
    refine g_lookup (off := 35) B 36 dX1_formOf_1 (by decide) (by rw [q1]; decide) (by decide) ?_
    refine g_gets B (k := 0) (by decide) rfl (by decide +kernel) dX1_formOf_36 ?_
    obtain ⟨rfl, rfl⟩ := some_e h
    exact g_aret B dX1_formOf_39
  have h := if_f h q1
  by_cases q2 : a1 = (6 : Int32)
  · have h := if_t h q2
    refine g_lookup (off := 39) B 40 dX1_formOf_1 (by decide) (by rw [q2]; decide) (by decide) ?_
    refine g_gets B (k := 1) (by decide) rfl (by decide +kernel) dX1_formOf_40 ?_
    obtain ⟨rfl, rfl⟩ := some_e h
    exact g_aret B dX1_formOf_43
  have h := if_f h q2
  by_cases q3 : a1 = (9 : Int32)
  · have h := if_t h q3
    refine g_lookup (off := 43) B 44 dX1_formOf_1 (by decide) (by rw [q3]; decide) (by decide) ?_
    refine g_gets B (k := 2) (by decide) rfl (by decide +kernel) dX1_formOf_44 ?_
    obtain ⟨rfl, rfl⟩ := some_e h
    exact g_aret B dX1_formOf_47
  have h := if_f h q3
  refine g_lookup (off := 47) B 48 dX1_formOf_1 (by decide) (by show Op.lookupswitch.offset [(4, 35), (6, 39), (9, 43)] 47 _ = _; rw [lv_osw q1 (by decide), lv_osw q2 (by decide), lv_osw q3 (by decide)]; rfl) (by decide) ?_
  refine g_gets B (k := 3) (by decide) rfl (by decide +kernel) dX1_formOf_48 ?_
  obtain ⟨rfl, rfl⟩ := some_e h
  exact g_aret B dX1_formOf_51

def rm_X1_leastOf : Room := { frames := 0, cells := 0, slots := 0, locals := 0 }
def f_X1_leastOf (cs : List (Nat × Nat)) (N : Nat) (a1 : Int32) (S : HS) : Option (Int32 × HS) :=
  if a1 = (15 : Int32) then (
    ck (mc cs 8 0) (
    ck (mc cs 11 0) (
    ck (inb (1 : Int32) 3) (
    some ((gi S 11 0 (1 : Int32).toNatClampNeg), S)))))
  else (
    some ((0 : Int32), S))
set_option maxHeartbeats 4000000 in
set_option maxRecDepth 100000 in
theorem c_X1_leastOf {l : Launch} {D : va_G} {cy : Nat → ClassId} {cs : List (Nat × Nat)} {ad : Nat → Nat → Nat} (hA : AdOk cs ad) (N : Nat) (a1 : Int32) (S : HS) (r : Int32) (Z : HS) (h : f_X1_leastOf cs N a1 S = some (r, Z)) : Ctr l yX1_leastOf cX1_leastOf 2 (some .int) rm_X1_leastOf D cy cs ad [.ref (ad 8 0), .int a1] S (some (.int r)) Z := by
  unfold f_X1_leastOf at h
  refine Ctr.of hA RX1 (plainFor_of_name (by decide)) rfl [(0, .ref (ad 8 0)), (1, .int a1)] rfl (Nat.le_of_ble_eq_true rfl) (fun p e s m below meth c B => ?_)
  refine g_iload_n B dX1_leastOf_0 1 rfl rfl ?_
  refine g_bipush (v := (15 : Int32)) B dX1_leastOf_1 (by decide) ?_
  refine g_icmp_ne B 15 dX1_leastOf_3 (by decide) (fun q1 => ?_) (fun q1 => ?_)
  · have h := if_f h q1
    refine g_iconst (v := (0 : Int32)) B dX1_leastOf_15 (by decide) ?_
    obtain ⟨rfl, rfl⟩ := some_e h
    exact g_iret B dX1_leastOf_16
  · have h := if_t h q1
    refine g_aload_n B dX1_leastOf_6 0 rfl rfl ?_
    obtain ⟨m2, h⟩ := ck_e h
    refine gt_X1_4 B m2 kf_X1_22 dX1_leastOf_7 ?_
    refine g_iconst (v := (1 : Int32)) B dX1_leastOf_10 (by decide) ?_
    obtain ⟨m3, h⟩ := ck_e h
    obtain ⟨b4, h⟩ := ck_e h
    refine g_iald (n := 3) B m3 (fun _ => rfl) b4 dX1_leastOf_11 ?_
    refine g_goto B 16 dX1_leastOf_12 (by decide) ?_
    obtain ⟨rfl, rfl⟩ := some_e h
    exact g_iret B dX1_leastOf_16

def rm_X1_mostOf : Room := { frames := 0, cells := 0, slots := 0, locals := 0 }
def f_X1_mostOf (cs : List (Nat × Nat)) (N : Nat) (a1 : Int32) (S : HS) : Option (Int32 × HS) :=
  if a1 = (12 : Int32) then (
    some ((5 : Int32), S))
  else (
  if a1 = (13 : Int32) then (
    some ((3 : Int32), S))
  else (
  some ((51 : Int32), S)))
set_option maxHeartbeats 4000000 in
set_option maxRecDepth 100000 in
theorem c_X1_mostOf {l : Launch} {D : va_G} {cy : Nat → ClassId} {cs : List (Nat × Nat)} {ad : Nat → Nat → Nat} (hA : AdOk cs ad) (N : Nat) (a1 : Int32) (S : HS) (r : Int32) (Z : HS) (h : f_X1_mostOf cs N a1 S = some (r, Z)) : Ctr l yX1_mostOf cX1_mostOf 1 (some .int) rm_X1_mostOf D cy cs ad [.int a1] S (some (.int r)) Z := by
  unfold f_X1_mostOf at h
  refine Ctr.of hA RX1 (plainFor_of_name (by decide)) rfl [(0, .int a1)] rfl (Nat.le_of_ble_eq_true rfl) (fun p e s m below meth c B => ?_)
  refine g_iload_n B dX1_mostOf_0 0 rfl rfl ?_
  by_cases q1 : a1 = (12 : Int32)
  · have h := if_t h q1
    refine g_lookup (off := 27) B 28 dX1_mostOf_1 (by decide) (by rw [q1]; decide) (by decide) ?_
    refine g_iconst (v := (5 : Int32)) B dX1_mostOf_28 (by decide) ?_
    obtain ⟨rfl, rfl⟩ := some_e h
    exact g_iret B dX1_mostOf_29
  have h := if_f h q1
  by_cases q2 : a1 = (13 : Int32)
  · have h := if_t h q2
    refine g_lookup (off := 29) B 30 dX1_mostOf_1 (by decide) (by rw [q2]; decide) (by decide) ?_
    refine g_iconst (v := (3 : Int32)) B dX1_mostOf_30 (by decide) ?_
    obtain ⟨rfl, rfl⟩ := some_e h
    exact g_iret B dX1_mostOf_31
  have h := if_f h q2
  refine g_lookup (off := 31) B 32 dX1_mostOf_1 (by decide) (by show Op.lookupswitch.offset [(12, 27), (13, 29)] 31 _ = _; rw [lv_osw q1 (by decide), lv_osw q2 (by decide)]; rfl) (by decide) ?_
  refine g_bipush (v := (51 : Int32)) B dX1_mostOf_32 (by decide) ?_
  obtain ⟨rfl, rfl⟩ := some_e h
  exact g_iret B dX1_mostOf_34

def rm_X1_stopAt : Room := { frames := 0, cells := 0, slots := 0, locals := 0 }
def f_X1_stopAt (cs : List (Nat × Nat)) (N : Nat) (a1 : Int32) (S : HS) : Option (Int32 × HS) :=
  ck (mc cs 8 0) (
  lt_ (ui S 8 0 2 a1) (fun S2 =>
  ck (mc cs 9 0) (
  lt_ (ui S2 8 0 3 (gi S2 9 0 2)) (fun S5 =>
  some ((0 : Int32), S5)))))
set_option maxHeartbeats 4000000 in
set_option maxRecDepth 100000 in
theorem c_X1_stopAt {l : Launch} {D : va_G} {cy : Nat → ClassId} {cs : List (Nat × Nat)} {ad : Nat → Nat → Nat} (hA : AdOk cs ad) (N : Nat) (a1 : Int32) (S : HS) (r : Int32) (Z : HS) (h : f_X1_stopAt cs N a1 S = some (r, Z)) : Ctr l yX1_stopAt cX1_stopAt 2 (some .boolean) rm_X1_stopAt D cy cs ad [.ref (ad 8 0), .int a1] S (some (.int r)) Z := by
  unfold f_X1_stopAt at h
  refine Ctr.of hA RX1 (plainFor_of_name (by decide)) rfl [(0, .ref (ad 8 0)), (1, .int a1)] rfl (Nat.le_of_ble_eq_true rfl) (fun p e s m below meth c B => ?_)
  refine g_aload_n B dX1_stopAt_0 0 rfl rfl ?_
  refine g_iload_n B dX1_stopAt_1 1 rfl rfl ?_
  obtain ⟨m1, h⟩ := ck_e h
  obtain ⟨S2, e3, h⟩ := lt_e h
  refine pt_X1_2 B m1 kf_X1_29 e3 dX1_stopAt_2 ?_
  refine g_aload_n B dX1_stopAt_5 0 rfl rfl ?_
  refine g_aload_n B dX1_stopAt_6 0 rfl rfl ?_
  refine gt_X1_0 B m1 kf_X1_12 dX1_stopAt_7 ?_
  obtain ⟨m4, h⟩ := ck_e h
  refine gt_X7_2 B m4 kf_X1_103 dX1_stopAt_10 ?_
  obtain ⟨S5, e6, h⟩ := lt_e h
  refine pt_X1_3 B m1 kf_X1_18 e6 dX1_stopAt_13 ?_
  refine g_iconst (v := (0 : Int32)) B dX1_stopAt_16 (by decide) ?_
  obtain ⟨rfl, rfl⟩ := some_e h
  exact g_zret B (by decide) dX1_stopAt_17

def rm_X3_grossToMake : Room := { frames := 0, cells := 0, slots := 0, locals := 0 }
def f_X3_grossToMake_2 (cs : List (Nat × Nat)) (N : Nat)  : Nat → Nat → Int32 → Int32 → HS → Option (Int32 × HS)
  | 0, _, _, _, _ => none
  | n + 1, k0, v1, v2, S =>
    if (200 : Int32) ≤ v2 then (
      some ((200 : Int32), S))
    else (
      ck (mc cs 6 k0) (
      lt_ ((((v2 * (gi S 6 k0 2)) + (99 : Int32)) / (100 : Int32))) (fun x3 =>
      if (v2 - x3) < v1 then (
        lt_ (v2 + (1 : Int32)) (fun x6 =>
        f_X3_grossToMake_2 cs N n k0 v1 x6 S))
      else (
        some (v2, S)))))
set_option maxHeartbeats 4000000 in
set_option maxRecDepth 100000 in
theorem b_X3_grossToMake_2 {p : Program} {l : Launch} {e : Env} {s : State} {m : MethodId} {args : Array Value} {below : List Frame} {meth : Method} {c : Code} {D : va_G} {cy : Nat → ClassId} {cs : List (Nat × Nat)} {ad : Nat → Nat → Nat} {r : Int32} {Z : HS} (B : Bd p s m args meth c D cy cs ad cX3_grossToMake 4 RX3 (some .int)) (N : Nat)  : ∀ (n : Nat) (k0 : Nat) (v1 : Int32) (v2 : Int32) (S : HS), f_X3_grossToMake_2 cs N n k0 v1 v2 S = some (r, Z) → GW p l e rm_X3_grossToMake s m args below meth c (QM below args s D cy cs ad (some (.int r)) Z) D cy cs ad 4 2 [(0, .ref (ad 6 k0)), (1, .int v1), (2, .int v2)] [] S := by
  have hA := B.2.2.2.2.2.2.1
  intro n
  induction n with
  | zero => intro k0 v1 v2 S h; cases h
  | succ n ih =>
    intro k0 v1 v2 S h
    rw [f_X3_grossToMake_2] at h
    refine g_iload_n B dX3_grossToMake_2 2 rfl rfl ?_
    refine g_sipush (v := (200 : Int32)) B dX3_grossToMake_3 (by decide) ?_
    refine g_icmp_ge B 37 dX3_grossToMake_6 (by decide) (fun q1 => ?_) (fun q1 => ?_)
    · have h := if_t h q1
      refine g_sipush (v := (200 : Int32)) B dX3_grossToMake_37 (by decide) ?_
      obtain ⟨rfl, rfl⟩ := some_e h
      exact g_iret B dX3_grossToMake_40
    · have h := if_f h q1
      refine g_iload_n B dX3_grossToMake_9 2 rfl rfl ?_
      refine g_aload_n B dX3_grossToMake_10 0 rfl rfl ?_
      obtain ⟨m2, h⟩ := ck_e h
      refine gt_X3_2 B m2 kf_X3_18 dX3_grossToMake_11 ?_
      refine g_imul B dX3_grossToMake_14 ?_
      refine g_bipush (v := (99 : Int32)) B dX3_grossToMake_15 (by decide) ?_
      refine g_iadd B dX3_grossToMake_17 ?_
      refine g_bipush (v := (100 : Int32)) B dX3_grossToMake_18 (by decide) ?_
      refine g_idiv B dX3_grossToMake_20 (by decide) ?_
      obtain ⟨x3, e4, h⟩ := lt_e h
      refine g_topi e4 ?_
      refine g_istore_n (lv' := [(3, .int x3), (0, .ref (ad 6 k0)), (1, .int v1), (2, .int v2)]) B dX3_grossToMake_21 rfl (by decide) rfl ?_
      refine g_iload_n B dX3_grossToMake_22 3 rfl rfl ?_
      refine g_iload_n B dX3_grossToMake_23 0 rfl rfl ?_
      refine g_isub B dX3_grossToMake_24 ?_
      refine g_iload_n B dX3_grossToMake_25 2 rfl rfl ?_
      refine g_icmp_lt B 31 dX3_grossToMake_26 (by decide) (fun q5 => ?_) (fun q5 => ?_)
      · have h := if_t h q5
        obtain ⟨x6, e7, h⟩ := lt_e h
        refine g_iinc (v := x6) (lv' := [(2, .int x6), (3, .int x3), (0, .ref (ad 6 k0)), (1, .int v1)]) B dX3_grossToMake_31 (k := 3) rfl (by rw [e7]; rfl) (by decide) rfl ?_
        refine g_goto B 2 dX3_grossToMake_34 (by decide) ?_
        refine g_sub [2, 3, 0] rfl ?_
        exact ih _ _ _ _ h
      · have h := if_f h q5
        refine g_iload_n B dX3_grossToMake_29 3 rfl rfl ?_
        obtain ⟨rfl, rfl⟩ := some_e h
        exact g_iret B dX3_grossToMake_30
def f_X3_grossToMake (cs : List (Nat × Nat)) (N : Nat) (k : Nat) (a1 : Int32) (S : HS) : Option (Int32 × HS) :=
  f_X3_grossToMake_2 cs N N k a1 a1 S
set_option maxHeartbeats 4000000 in
set_option maxRecDepth 100000 in
theorem c_X3_grossToMake {l : Launch} {D : va_G} {cy : Nat → ClassId} {cs : List (Nat × Nat)} {ad : Nat → Nat → Nat} (hA : AdOk cs ad) (N : Nat) (k : Nat) (a1 : Int32) (S : HS) (r : Int32) (Z : HS) (h : f_X3_grossToMake cs N k a1 S = some (r, Z)) : Ctr l yX3_grossToMake cX3_grossToMake 4 (some .int) rm_X3_grossToMake D cy cs ad [.ref (ad 6 k), .int a1] S (some (.int r)) Z := by
  unfold f_X3_grossToMake at h
  refine Ctr.of hA RX3 (plainFor_of_name (by decide)) rfl [(0, .ref (ad 6 k)), (1, .int a1)] rfl (Nat.le_of_ble_eq_true rfl) (fun p e s m below meth c B => ?_)
  refine g_iload_n B dX3_grossToMake_0 1 rfl rfl ?_
  refine g_istore_n (lv' := [(2, .int a1), (0, .ref (ad 6 k)), (1, .int a1)]) B dX3_grossToMake_1 rfl (by decide) rfl ?_
  refine g_sub [1, 2, 0] rfl ?_
  exact b_X3_grossToMake_2 B N N _ _ _ _ h

def rm_X5_give : Room := { frames := 0, cells := 0, slots := 0, locals := 0 }
def f_X5_give_9 (cs : List (Nat × Nat)) (N : Nat)  : Nat → Nat → Int32 → Int32 → HS → Option (Unit × HS)
  | 0, _, _, _, _ => none
  | n + 1, k0, v1, v3, S =>
    if (4 : Int32) ≤ v3 then (
      some ((), S))
    else (
      ck (mc cs 20 k0) (
      ck (mc cs 22 k0) (
      ck (inb v1 6) (
      ck (mc cs 23 (6 * k0 + v1.toNatClampNeg)) (
      ck (inb v3 4) (
      lt_ (ui S 23 (6 * k0 + v1.toNatClampNeg) v3.toNatClampNeg (-1 : Int32)) (fun S7 =>
      lt_ (v3 + (1 : Int32)) (fun x9 =>
      f_X5_give_9 cs N n k0 v1 x9 S7))))))))
set_option maxHeartbeats 4000000 in
set_option maxRecDepth 100000 in
theorem b_X5_give_9 {p : Program} {l : Launch} {e : Env} {s : State} {m : MethodId} {args : Array Value} {below : List Frame} {meth : Method} {c : Code} {D : va_G} {cy : Nat → ClassId} {cs : List (Nat × Nat)} {ad : Nat → Nat → Nat} {r : Unit} {Z : HS} (B : Bd p s m args meth c D cy cs ad cX5_give 4 RX5 none) (N : Nat)  : ∀ (n : Nat) (k0 : Nat) (v1 : Int32) (v3 : Int32) (S : HS), f_X5_give_9 cs N n k0 v1 v3 S = some (r, Z) → GW p l e rm_X5_give s m args below meth c (QM below args s D cy cs ad (none) Z) D cy cs ad 4 9 [(0, .ref (ad 20 k0)), (1, .int v1), (3, .int v3)] [] S := by
  have hA := B.2.2.2.2.2.2.1
  intro n
  induction n with
  | zero => intro k0 v1 v3 S h; cases h
  | succ n ih =>
    intro k0 v1 v3 S h
    rw [f_X5_give_9] at h
    refine g_iload_n B dX5_give_9 2 rfl rfl ?_
    refine g_iconst (v := (4 : Int32)) B dX5_give_10 (by decide) ?_
    refine g_icmp_ge B 29 dX5_give_11 (by decide) (fun q1 => ?_) (fun q1 => ?_)
    · have h := if_t h q1
      obtain ⟨-, rfl⟩ := some_e h
      exact g_vret B dX5_give_29
    · have h := if_f h q1
      refine g_aload_n B dX5_give_14 0 rfl rfl ?_
      obtain ⟨m2, h⟩ := ck_e h
      refine gt_X5_1 B m2 kf_X5_17 dX5_give_15 ?_
      refine g_iload_n B dX5_give_18 1 rfl rfl ?_
      obtain ⟨m3, h⟩ := ck_e h
      obtain ⟨b4, h⟩ := ck_e h
      refine g_aald (t0 := 7) (a := ad 23 (6 * k0 + v1.toNatClampNeg)) B rfl rfl m3 rfl b4 rfl dX5_give_19 ?_
      refine g_iload_n B dX5_give_20 2 rfl rfl ?_
      refine g_iconst (v := (-1 : Int32)) B dX5_give_21 (by decide) ?_
      obtain ⟨m5, h⟩ := ck_e h
      obtain ⟨b6, h⟩ := ck_e h
      obtain ⟨S7, e8, h⟩ := lt_e h
      refine g_iast (n := 4) B m5 b6 (fun _ => rfl) e8 dX5_give_22 ?_
      obtain ⟨x9, e10, h⟩ := lt_e h
      refine g_iinc (v := x9) (lv' := [(3, .int x9), (0, .ref (ad 20 k0)), (1, .int v1)]) B dX5_give_23 (k := 2) rfl (by rw [e10]; rfl) (by decide) rfl ?_
      refine g_goto B 9 dX5_give_26 (by decide) ?_
      refine g_sub [1, 2, 0] rfl ?_
      exact ih _ _ _ _ h
def f_X5_give (cs : List (Nat × Nat)) (N : Nat) (k : Nat) (a1 : Int32) (a2 : Int32) (S : HS) : Option (Unit × HS) :=
  ck (mc cs 20 k) (
  ck (mc cs 21 k) (
  ck (inb a1 6) (
  lt_ (ui S 21 k a1.toNatClampNeg a2) (fun S4 =>
  f_X5_give_9 cs N N k a1 (0 : Int32) S4))))
set_option maxHeartbeats 4000000 in
set_option maxRecDepth 100000 in
theorem c_X5_give {l : Launch} {D : va_G} {cy : Nat → ClassId} {cs : List (Nat × Nat)} {ad : Nat → Nat → Nat} (hA : AdOk cs ad) (N : Nat) (k : Nat) (a1 : Int32) (a2 : Int32) (S : HS) (r : Unit) (Z : HS) (h : f_X5_give cs N k a1 a2 S = some (r, Z)) : Ctr l yX5_give cX5_give 4 none rm_X5_give D cy cs ad [.ref (ad 20 k), .int a1, .int a2] S (none) Z := by
  unfold f_X5_give at h
  refine Ctr.of hA RX5 (plainFor_of_name (by decide)) rfl [(0, .ref (ad 20 k)), (1, .int a1), (2, .int a2)] rfl (Nat.le_of_ble_eq_true rfl) (fun p e s m below meth c B => ?_)
  refine g_aload_n B dX5_give_0 0 rfl rfl ?_
  obtain ⟨m1, h⟩ := ck_e h
  refine gt_X5_0 B m1 kf_X5_9 dX5_give_1 ?_
  refine g_iload_n B dX5_give_4 1 rfl rfl ?_
  refine g_iload_n B dX5_give_5 2 rfl rfl ?_
  obtain ⟨m2, h⟩ := ck_e h
  obtain ⟨b3, h⟩ := ck_e h
  obtain ⟨S4, e5, h⟩ := lt_e h
  refine g_iast (n := 6) B m2 b3 (fun _ => rfl) e5 dX5_give_6 ?_
  refine g_iconst (v := (0 : Int32)) B dX5_give_7 (by decide) ?_
  refine g_istore_n (lv' := [(3, .int (0 : Int32)), (0, .ref (ad 20 k)), (1, .int a1), (2, .int a2)]) B dX5_give_8 rfl (by decide) rfl ?_
  refine g_sub [1, 2, 0] rfl ?_
  exact b_X5_give_9 B N N _ _ _ _ h

def rm_X5_share : Room := { frames := 1, cells := 0, slots := 0, locals := 21 }
def f_X5_share (cs : List (Nat × Nat)) (N : Nat) (k : Nat) (a1 : Int32) (a2 : Int32) (a3 : Int32) (S : HS) : Option (Unit × HS) :=
  ck (mc cs 20 k) (
  ck (mc cs 22 k) (
  ck (inb a1 6) (
  ck (inb a1 6) (
  ck (mc cs 23 (6 * k + a1.toNatClampNeg)) (
  ck (inb a2 4) (
  ob (f_J9_max_7cf53 cs N (gi S 23 (6 * k + a1.toNatClampNeg) a2.toNatClampNeg) a3 S) (fun r7 S8 =>
  ck (inb a2 4) (
  lt_ (ui S8 23 (6 * k + a1.toNatClampNeg) a2.toNatClampNeg r7) (fun S11 =>
  some ((), S11))))))))))
set_option maxHeartbeats 4000000 in
set_option maxRecDepth 100000 in
theorem c_X5_share {l : Launch} {D : va_G} {cy : Nat → ClassId} {cs : List (Nat × Nat)} {ad : Nat → Nat → Nat} (hA : AdOk cs ad) (N : Nat) (k : Nat) (a1 : Int32) (a2 : Int32) (a3 : Int32) (S : HS) (r : Unit) (Z : HS) (h : f_X5_share cs N k a1 a2 a3 S = some (r, Z)) : Ctr l yX5_share cX5_share 4 none rm_X5_share D cy cs ad [.ref (ad 20 k), .int a1, .int a2, .int a3] S (none) Z := by
  unfold f_X5_share at h
  refine Ctr.of hA RX5 (plainFor_of_name (by decide)) rfl [(0, .ref (ad 20 k)), (1, .int a1), (2, .int a2), (3, .int a3)] rfl (Nat.le_of_ble_eq_true rfl) (fun p e s m below meth c B => ?_)
  refine g_aload_n B dX5_share_0 0 rfl rfl ?_
  obtain ⟨m1, h⟩ := ck_e h
  refine gt_X5_1 B m1 kf_X5_17 dX5_share_1 ?_
  refine g_iload_n B dX5_share_4 1 rfl rfl ?_
  obtain ⟨m2, h⟩ := ck_e h
  obtain ⟨b3, h⟩ := ck_e h
  refine g_aald (t0 := 7) (a := ad 23 (6 * k + a1.toNatClampNeg)) B rfl rfl m2 rfl b3 rfl dX5_share_5 ?_
  refine g_iload_n B dX5_share_6 2 rfl rfl ?_
  refine g_aload_n B dX5_share_7 0 rfl rfl ?_
  refine gt_X5_1 B m1 kf_X5_17 dX5_share_8 ?_
  refine g_iload_n B dX5_share_11 1 rfl rfl ?_
  obtain ⟨b4, h⟩ := ck_e h
  refine g_aald (t0 := 7) (a := ad 23 (6 * k + a1.toNatClampNeg)) B rfl rfl m2 rfl b4 rfl dX5_share_12 ?_
  refine g_iload_n B dX5_share_13 2 rfl rfl ?_
  obtain ⟨m5, h⟩ := ck_e h
  obtain ⟨b6, h⟩ := ck_e h
  refine g_iald (n := 4) B m5 (fun _ => rfl) b6 dX5_share_14 ?_
  refine g_iload_n B dX5_share_15 3 rfl rfl ?_
  obtain ⟨r7, S8, e9, h⟩ := ob_e h
  refine g_csi (rest := [.int a2, .ref (ad 23 (6 * k + a1.toNatClampNeg))]) B (c_J9_max_7cf53 hA N _ _ _ _ _ e9) mf_J9_max_7cf53 km_X5_31 ⟨by decide, by decide⟩ ⟨rfl, rfl⟩ rfl rfl (Nat.le_of_ble_eq_true rfl) dX5_share_16 ?_
  obtain ⟨b10, h⟩ := ck_e h
  obtain ⟨S11, e12, h⟩ := lt_e h
  refine g_iast (n := 4) B m5 b10 (fun _ => rfl) e12 dX5_share_19 ?_
  obtain ⟨-, rfl⟩ := some_e h
  exact g_vret B dX5_share_20

def rm_X5_shut : Room := { frames := 0, cells := 0, slots := 0, locals := 0 }
def f_X5_shut_3 (cs : List (Nat × Nat)) (N : Nat)  : Nat → Nat → Int32 → Int32 → Int32 → HS → Option (Unit × HS)
  | 0, _, _, _, _, _ => none
  | n + 1, k0, v1, v3, v4, S =>
    if v3 < v4 then (
      some ((), S))
    else (
      ck (mc cs 20 k0) (
      ck (mc cs 24 k0) (
      ck (inb v1 6) (
      ck (inb v1 6) (
      lt_ (ul S 24 k0 v1.toNatClampNeg ((gl S 24 k0 v1.toNatClampNeg) ||| ((1 : Int64) <<< (v4.toInt64 &&& 63)))) (fun S6 =>
      lt_ (v4 + (1 : Int32)) (fun x8 =>
      f_X5_shut_3 cs N n k0 v1 v3 x8 S6)))))))
set_option maxHeartbeats 4000000 in
set_option maxRecDepth 100000 in
theorem b_X5_shut_3 {p : Program} {l : Launch} {e : Env} {s : State} {m : MethodId} {args : Array Value} {below : List Frame} {meth : Method} {c : Code} {D : va_G} {cy : Nat → ClassId} {cs : List (Nat × Nat)} {ad : Nat → Nat → Nat} {r : Unit} {Z : HS} (B : Bd p s m args meth c D cy cs ad cX5_shut 5 RX5 none) (N : Nat)  : ∀ (n : Nat) (k0 : Nat) (v1 : Int32) (v3 : Int32) (v4 : Int32) (S : HS), f_X5_shut_3 cs N n k0 v1 v3 v4 S = some (r, Z) → GW p l e rm_X5_shut s m args below meth c (QM below args s D cy cs ad (none) Z) D cy cs ad 5 3 [(0, .ref (ad 20 k0)), (1, .int v1), (3, .int v3), (4, .int v4)] [] S := by
  have hA := B.2.2.2.2.2.2.1
  intro n
  induction n with
  | zero => intro k0 v1 v3 v4 S h; cases h
  | succ n ih =>
    intro k0 v1 v3 v4 S h
    rw [f_X5_shut_3] at h
    refine g_iload B dX5_shut_3 3 rfl ?_
    refine g_iload_n B dX5_shut_5 2 rfl rfl ?_
    refine g_icmp_gt B 28 dX5_shut_6 (by decide) (fun q1 => ?_) (fun q1 => ?_)
    · have h := if_t h q1
      obtain ⟨-, rfl⟩ := some_e h
      exact g_vret B dX5_shut_28
    · have h := if_f h q1
      refine g_aload_n B dX5_shut_9 0 rfl rfl ?_
      obtain ⟨m2, h⟩ := ck_e h
      refine gt_X5_2 B m2 kf_X5_20 dX5_shut_10 ?_
      refine g_iload_n B dX5_shut_13 1 rfl rfl ?_
      refine g_dup2 B dX5_shut_14 rfl rfl ?_
      obtain ⟨m3, h⟩ := ck_e h
      obtain ⟨b4, h⟩ := ck_e h
      refine g_lald (n := 6) B m3 (fun _ => rfl) b4 dX5_shut_15 ?_
      refine g_lconst (v := (1 : Int64)) B dX5_shut_16 rfl ?_
      refine g_iload B dX5_shut_17 3 rfl ?_
      refine g_lshl B dX5_shut_19 ?_
      refine g_lor B dX5_shut_20 ?_
      obtain ⟨b5, h⟩ := ck_e h
      obtain ⟨S6, e7, h⟩ := lt_e h
      refine g_last (n := 6) B m3 b5 (fun _ => rfl) e7 dX5_shut_21 ?_
      obtain ⟨x8, e9, h⟩ := lt_e h
      refine g_iinc (v := x8) (lv' := [(4, .int x8), (0, .ref (ad 20 k0)), (1, .int v1), (3, .int v3)]) B dX5_shut_22 (k := 3) rfl (by rw [e9]; rfl) (by decide) rfl ?_
      refine g_goto B 3 dX5_shut_25 (by decide) ?_
      refine g_sub [1, 2, 3, 0] rfl ?_
      exact ih _ _ _ _ _ h
def f_X5_shut (cs : List (Nat × Nat)) (N : Nat) (k : Nat) (a1 : Int32) (a2 : Int32) (a3 : Int32) (S : HS) : Option (Unit × HS) :=
  f_X5_shut_3 cs N N k a1 a3 a2 S
set_option maxHeartbeats 4000000 in
set_option maxRecDepth 100000 in
theorem c_X5_shut {l : Launch} {D : va_G} {cy : Nat → ClassId} {cs : List (Nat × Nat)} {ad : Nat → Nat → Nat} (hA : AdOk cs ad) (N : Nat) (k : Nat) (a1 : Int32) (a2 : Int32) (a3 : Int32) (S : HS) (r : Unit) (Z : HS) (h : f_X5_shut cs N k a1 a2 a3 S = some (r, Z)) : Ctr l yX5_shut cX5_shut 5 none rm_X5_shut D cy cs ad [.ref (ad 20 k), .int a1, .int a2, .int a3] S (none) Z := by
  unfold f_X5_shut at h
  refine Ctr.of hA RX5 (plainFor_of_name (by decide)) rfl [(0, .ref (ad 20 k)), (1, .int a1), (2, .int a2), (3, .int a3)] rfl (Nat.le_of_ble_eq_true rfl) (fun p e s m below meth c B => ?_)
  refine g_iload_n B dX5_shut_0 2 rfl rfl ?_
  refine g_istore (lv' := [(4, .int a2), (0, .ref (ad 20 k)), (1, .int a1), (2, .int a2), (3, .int a3)]) B dX5_shut_1 (by decide) rfl ?_
  refine g_sub [1, 2, 4, 0] rfl ?_
  exact b_X5_shut_3 B N N _ _ _ _ _ h

def rm_X5_allow : Room := { frames := 0, cells := 0, slots := 0, locals := 0 }
def f_X5_allow (cs : List (Nat × Nat)) (N : Nat) (k : Nat) (a1 : Int32) (a2 : Int32) (a3 : Int32) (S : HS) : Option (Int32 × HS) :=
  ck (mc cs 20 k) (
  ck (mc cs 24 k) (
  ck (inb a2 6) (
  if (lg_cmp (((gl S 24 k a2.toNatClampNeg) >>> (a3.toInt64 &&& 63)) &&& (1 : Int64)) (0 : Int64)) = 0 then (
    ck (mc cs 21 k) (
    ck (inb a2 6) (
    if (gi S 21 k a2.toNatClampNeg) = (-1 : Int32) then (
      some ((1 : Int32), S))
    else (
      ck (inb a2 6) (
      if (gi S 21 k a2.toNatClampNeg) = a1 then (
        some ((1 : Int32), S))
      else (
        ck (mc cs 22 k) (
        ck (inb a2 6) (
        ck (mc cs 23 (6 * k + a2.toNatClampNeg)) (
        ck (inb a1 4) (
        if (gi S 23 (6 * k + a2.toNatClampNeg) a1.toNatClampNeg) < a3 then (
          some ((0 : Int32), S))
        else (
          some ((1 : Int32), S))))))))))))
  else (
    some ((0 : Int32), S)))))
set_option maxHeartbeats 4000000 in
set_option maxRecDepth 100000 in
theorem c_X5_allow {l : Launch} {D : va_G} {cy : Nat → ClassId} {cs : List (Nat × Nat)} {ad : Nat → Nat → Nat} (hA : AdOk cs ad) (N : Nat) (k : Nat) (a1 : Int32) (a2 : Int32) (a3 : Int32) (S : HS) (r : Int32) (Z : HS) (h : f_X5_allow cs N k a1 a2 a3 S = some (r, Z)) : Ctr l yX5_allow cX5_allow 4 (some .boolean) rm_X5_allow D cy cs ad [.ref (ad 20 k), .int a1, .int a2, .int a3] S (some (.int r)) Z := by
  unfold f_X5_allow at h
  refine Ctr.of hA RX5 (plainFor_of_name (by decide)) rfl [(0, .ref (ad 20 k)), (1, .int a1), (2, .int a2), (3, .int a3)] rfl (Nat.le_of_ble_eq_true rfl) (fun p e s m below meth c B => ?_)
  refine g_aload_n B dX5_allow_0 0 rfl rfl ?_
  obtain ⟨m1, h⟩ := ck_e h
  refine gt_X5_2 B m1 kf_X5_20 dX5_allow_1 ?_
  refine g_iload_n B dX5_allow_4 2 rfl rfl ?_
  obtain ⟨m2, h⟩ := ck_e h
  obtain ⟨b3, h⟩ := ck_e h
  refine g_lald (n := 6) B m2 (fun _ => rfl) b3 dX5_allow_5 ?_
  refine g_iload_n B dX5_allow_6 3 rfl rfl ?_
  refine g_lshr B dX5_allow_7 ?_
  refine g_lconst (v := (1 : Int64)) B dX5_allow_8 rfl ?_
  refine g_land B dX5_allow_9 ?_
  refine g_lconst (v := (0 : Int64)) B dX5_allow_10 rfl ?_
  refine g_lcmp B dX5_allow_11 ?_
  refine g_if_eq B 17 dX5_allow_12 (by decide) (fun q4 => ?_) (fun q4 => ?_)
  · have h := if_t h q4
    refine g_aload_n B dX5_allow_17 0 rfl rfl ?_
    refine gt_X5_0 B m1 kf_X5_9 dX5_allow_18 ?_
    refine g_iload_n B dX5_allow_21 2 rfl rfl ?_
    obtain ⟨m5, h⟩ := ck_e h
    obtain ⟨b6, h⟩ := ck_e h
    refine g_iald (n := 6) B m5 (fun _ => rfl) b6 dX5_allow_22 ?_
    refine g_iconst (v := (-1 : Int32)) B dX5_allow_23 (by decide) ?_
    refine g_icmp_eq B 49 dX5_allow_24 (by decide) (fun q7 => ?_) (fun q7 => ?_)
    · have h := if_t h q7
      refine g_iconst (v := (1 : Int32)) B dX5_allow_49 (by decide) ?_
      refine g_goto B 54 dX5_allow_50 (by decide) ?_
      obtain ⟨rfl, rfl⟩ := some_e h
      exact g_zret B (by decide) dX5_allow_54
    · have h := if_f h q7
      refine g_aload_n B dX5_allow_27 0 rfl rfl ?_
      refine gt_X5_0 B m1 kf_X5_9 dX5_allow_28 ?_
      refine g_iload_n B dX5_allow_31 2 rfl rfl ?_
      obtain ⟨b8, h⟩ := ck_e h
      refine g_iald (n := 6) B m5 (fun _ => rfl) b8 dX5_allow_32 ?_
      refine g_iload_n B dX5_allow_33 1 rfl rfl ?_
      refine g_icmp_eq B 49 dX5_allow_34 (by decide) (fun q9 => ?_) (fun q9 => ?_)
      · have h := if_t h q9
        refine g_iconst (v := (1 : Int32)) B dX5_allow_49 (by decide) ?_
        refine g_goto B 54 dX5_allow_50 (by decide) ?_
        obtain ⟨rfl, rfl⟩ := some_e h
        exact g_zret B (by decide) dX5_allow_54
      · have h := if_f h q9
        refine g_aload_n B dX5_allow_37 0 rfl rfl ?_
        refine gt_X5_1 B m1 kf_X5_17 dX5_allow_38 ?_
        refine g_iload_n B dX5_allow_41 2 rfl rfl ?_
        obtain ⟨m10, h⟩ := ck_e h
        obtain ⟨b11, h⟩ := ck_e h
        refine g_aald (t0 := 7) (a := ad 23 (6 * k + a2.toNatClampNeg)) B rfl rfl m10 rfl b11 rfl dX5_allow_42 ?_
        refine g_iload_n B dX5_allow_43 1 rfl rfl ?_
        obtain ⟨m12, h⟩ := ck_e h
        obtain ⟨b13, h⟩ := ck_e h
        refine g_iald (n := 4) B m12 (fun _ => rfl) b13 dX5_allow_44 ?_
        refine g_iload_n B dX5_allow_45 3 rfl rfl ?_
        refine g_icmp_lt B 53 dX5_allow_46 (by decide) (fun q14 => ?_) (fun q14 => ?_)
        · have h := if_t h q14
          refine g_iconst (v := (0 : Int32)) B dX5_allow_53 (by decide) ?_
          obtain ⟨rfl, rfl⟩ := some_e h
          exact g_zret B (by decide) dX5_allow_54
        · have h := if_f h q14
          refine g_iconst (v := (1 : Int32)) B dX5_allow_49 (by decide) ?_
          refine g_goto B 54 dX5_allow_50 (by decide) ?_
          obtain ⟨rfl, rfl⟩ := some_e h
          exact g_zret B (by decide) dX5_allow_54
  · have h := if_f h q4
    refine g_iconst (v := (0 : Int32)) B dX5_allow_15 (by decide) ?_
    obtain ⟨rfl, rfl⟩ := some_e h
    exact g_zret B (by decide) dX5_allow_16

def rm_X6_reckonAnew : Room := { frames := 1, cells := 0, slots := 0, locals := 23 }
def f_X6_reckonAnew (cs : List (Nat × Nat)) (N : Nat) (k : Nat) (a1 : Nat) (S : HS) : Option (Unit × HS) :=
  ck (mc cs 7 k) (
  ck (mc cs 6 a1) (
  ob (f_X3_grossToMake cs N a1 (gi S 7 k 2) S) (fun r3 S4 =>
  lt_ (ui S4 7 k 5 r3) (fun S6 =>
  lt_ (ui S6 7 k 6 ((gi S6 7 k 5) * (gi S6 6 a1 0))) (fun S8 =>
  lt_ (ui S8 7 k 7 ((gi S8 7 k 5) * (gi S8 6 a1 1))) (fun S10 =>
  lt_ (ui S10 7 k 9 (0 : Int32)) (fun S12 =>
  lt_ (ui S12 7 k 10 (-1 : Int32)) (fun S14 =>
  some ((), S14)))))))))
set_option maxHeartbeats 4000000 in
set_option maxRecDepth 100000 in
theorem c_X6_reckonAnew {l : Launch} {D : va_G} {cy : Nat → ClassId} {cs : List (Nat × Nat)} {ad : Nat → Nat → Nat} (hA : AdOk cs ad) (N : Nat) (k : Nat) (a1 : Nat) (S : HS) (r : Unit) (Z : HS) (h : f_X6_reckonAnew cs N k a1 S = some (r, Z)) : Ctr l yX6_reckonAnew cX6_reckonAnew 2 none rm_X6_reckonAnew D cy cs ad [.ref (ad 7 k), .ref (ad 6 a1)] S (none) Z := by
  unfold f_X6_reckonAnew at h
  refine Ctr.of hA RX6 (plainFor_of_name (by decide)) rfl [(0, .ref (ad 7 k)), (1, .ref (ad 6 a1))] rfl (Nat.le_of_ble_eq_true rfl) (fun p e s m below meth c B => ?_)
  refine g_aload_n B dX6_reckonAnew_0 0 rfl rfl ?_
  refine g_aload_n B dX6_reckonAnew_1 1 rfl rfl ?_
  refine g_aload_n B dX6_reckonAnew_2 0 rfl rfl ?_
  obtain ⟨m1, h⟩ := ck_e h
  refine gt_X6_2 B m1 kf_X6_21 dX6_reckonAnew_3 ?_
  obtain ⟨m2, h⟩ := ck_e h
  obtain ⟨r3, S4, e5, h⟩ := ob_e h
  refine g_cvi (rest := [.ref (ad 7 k)]) B (c_X3_grossToMake hA N _ _ _ _ _ e5) mf_X3_grossToMake km_X6_24 ⟨by decide, by decide⟩ ⟨rfl, rfl⟩ m2 rfl rfl rfl rfl (Nat.le_of_ble_eq_true rfl) dX6_reckonAnew_6 ?_
  obtain ⟨S6, e7, h⟩ := lt_e h
  refine pt_X6_5 B m1 kf_X6_30 e7 dX6_reckonAnew_9 ?_
  refine g_aload_n B dX6_reckonAnew_12 0 rfl rfl ?_
  refine g_aload_n B dX6_reckonAnew_13 0 rfl rfl ?_
  refine gt_X6_5 B m1 kf_X6_30 dX6_reckonAnew_14 ?_
  refine g_aload_n B dX6_reckonAnew_17 1 rfl rfl ?_
  refine gt_X3_0 B m2 kf_X6_33 dX6_reckonAnew_18 ?_
  refine g_imul B dX6_reckonAnew_21 ?_
  obtain ⟨S8, e9, h⟩ := lt_e h
  refine pt_X6_6 B m1 kf_X6_36 e9 dX6_reckonAnew_22 ?_
  refine g_aload_n B dX6_reckonAnew_25 0 rfl rfl ?_
  refine g_aload_n B dX6_reckonAnew_26 0 rfl rfl ?_
  refine gt_X6_5 B m1 kf_X6_30 dX6_reckonAnew_27 ?_
  refine g_aload_n B dX6_reckonAnew_30 1 rfl rfl ?_
  refine gt_X3_1 B m2 kf_X6_37 dX6_reckonAnew_31 ?_
  refine g_imul B dX6_reckonAnew_34 ?_
  obtain ⟨S10, e11, h⟩ := lt_e h
  refine pt_X6_7 B m1 kf_X6_40 e11 dX6_reckonAnew_35 ?_
  refine g_aload_n B dX6_reckonAnew_38 0 rfl rfl ?_
  refine g_iconst (v := (0 : Int32)) B dX6_reckonAnew_39 (by decide) ?_
  obtain ⟨S12, e13, h⟩ := lt_e h
  refine pt_X6_9 B m1 kf_X6_41 e13 dX6_reckonAnew_40 ?_
  refine g_aload_n B dX6_reckonAnew_43 0 rfl rfl ?_
  refine g_iconst (v := (-1 : Int32)) B dX6_reckonAnew_44 (by decide) ?_
  obtain ⟨S14, e15, h⟩ := lt_e h
  refine pt_X6_10 B m1 kf_X6_15 e15 dX6_reckonAnew_45 ?_
  obtain ⟨-, rfl⟩ := some_e h
  exact g_vret B dX6_reckonAnew_48

def rm_X6_hoursLeftFor : Room := { frames := 0, cells := 0, slots := 0, locals := 0 }
def f_X6_hoursLeftFor (cs : List (Nat × Nat)) (N : Nat) (k : Nat) (a1 : Int32) (S : HS) : Option (Int32 × HS) :=
  ck (mc cs 7 k) (
  if (gi S 7 k 10) = a1 then (
    some (((gi S 7 k 6) - (gi S 7 k 9)), S))
  else (
    some ((gi S 7 k 6), S)))
set_option maxHeartbeats 4000000 in
set_option maxRecDepth 100000 in
theorem c_X6_hoursLeftFor {l : Launch} {D : va_G} {cy : Nat → ClassId} {cs : List (Nat × Nat)} {ad : Nat → Nat → Nat} (hA : AdOk cs ad) (N : Nat) (k : Nat) (a1 : Int32) (S : HS) (r : Int32) (Z : HS) (h : f_X6_hoursLeftFor cs N k a1 S = some (r, Z)) : Ctr l yX6_hoursLeftFor cX6_hoursLeftFor 2 (some .int) rm_X6_hoursLeftFor D cy cs ad [.ref (ad 7 k), .int a1] S (some (.int r)) Z := by
  unfold f_X6_hoursLeftFor at h
  refine Ctr.of hA RX6 (plainFor_of_name (by decide)) rfl [(0, .ref (ad 7 k)), (1, .int a1)] rfl (Nat.le_of_ble_eq_true rfl) (fun p e s m below meth c B => ?_)
  refine g_aload_n B dX6_hoursLeftFor_0 0 rfl rfl ?_
  obtain ⟨m1, h⟩ := ck_e h
  refine gt_X6_10 B m1 kf_X6_15 dX6_hoursLeftFor_1 ?_
  refine g_iload_n B dX6_hoursLeftFor_4 1 rfl rfl ?_
  refine g_icmp_ne B 20 dX6_hoursLeftFor_5 (by decide) (fun q2 => ?_) (fun q2 => ?_)
  · have h := if_f h q2
    refine g_aload_n B dX6_hoursLeftFor_20 0 rfl rfl ?_
    refine gt_X6_6 B m1 kf_X6_36 dX6_hoursLeftFor_21 ?_
    obtain ⟨rfl, rfl⟩ := some_e h
    exact g_iret B dX6_hoursLeftFor_24
  · have h := if_t h q2
    refine g_aload_n B dX6_hoursLeftFor_8 0 rfl rfl ?_
    refine gt_X6_6 B m1 kf_X6_36 dX6_hoursLeftFor_9 ?_
    refine g_aload_n B dX6_hoursLeftFor_12 0 rfl rfl ?_
    refine gt_X6_9 B m1 kf_X6_41 dX6_hoursLeftFor_13 ?_
    refine g_isub B dX6_hoursLeftFor_16 ?_
    refine g_goto B 24 dX6_hoursLeftFor_17 (by decide) ?_
    obtain ⟨rfl, rfl⟩ := some_e h
    exact g_iret B dX6_hoursLeftFor_24

def rm_X6_workBy : Room := { frames := 0, cells := 0, slots := 0, locals := 0 }
def f_X6_workBy (cs : List (Nat × Nat)) (N : Nat) (k : Nat) (a1 : Int32) (a2 : Int32) (S : HS) : Option (Unit × HS) :=
  ck (mc cs 7 k) (
  if (gi S 7 k 10) = a1 then (
    lt_ (ui S 7 k 9 ((gi S 7 k 9) + a2)) (fun S3 =>
    some ((), S3)))
  else (
    lt_ (ui S 7 k 10 a1) (fun S5 =>
    lt_ (ui S5 7 k 9 (0 : Int32)) (fun S7 =>
    lt_ (ui S7 7 k 9 ((gi S7 7 k 9) + a2)) (fun S9 =>
    some ((), S9))))))
set_option maxHeartbeats 4000000 in
set_option maxRecDepth 100000 in
theorem c_X6_workBy {l : Launch} {D : va_G} {cy : Nat → ClassId} {cs : List (Nat × Nat)} {ad : Nat → Nat → Nat} (hA : AdOk cs ad) (N : Nat) (k : Nat) (a1 : Int32) (a2 : Int32) (S : HS) (r : Unit) (Z : HS) (h : f_X6_workBy cs N k a1 a2 S = some (r, Z)) : Ctr l yX6_workBy cX6_workBy 3 none rm_X6_workBy D cy cs ad [.ref (ad 7 k), .int a1, .int a2] S (none) Z := by
  unfold f_X6_workBy at h
  refine Ctr.of hA RX6 (plainFor_of_name (by decide)) rfl [(0, .ref (ad 7 k)), (1, .int a1), (2, .int a2)] rfl (Nat.le_of_ble_eq_true rfl) (fun p e s m below meth c B => ?_)
  refine g_aload_n B dX6_workBy_0 0 rfl rfl ?_
  obtain ⟨m1, h⟩ := ck_e h
  refine gt_X6_10 B m1 kf_X6_15 dX6_workBy_1 ?_
  refine g_iload_n B dX6_workBy_4 1 rfl rfl ?_
  refine g_icmp_eq B 18 dX6_workBy_5 (by decide) (fun q2 => ?_) (fun q2 => ?_)
  · have h := if_t h q2
    refine g_aload_n B dX6_workBy_18 0 rfl rfl ?_
    refine g_dup B dX6_workBy_19 rfl ?_
    refine gt_X6_9 B m1 kf_X6_41 dX6_workBy_20 ?_
    refine g_iload_n B dX6_workBy_23 2 rfl rfl ?_
    refine g_iadd B dX6_workBy_24 ?_
    obtain ⟨S3, e4, h⟩ := lt_e h
    refine pt_X6_9 B m1 kf_X6_41 e4 dX6_workBy_25 ?_
    obtain ⟨-, rfl⟩ := some_e h
    exact g_vret B dX6_workBy_28
  · have h := if_f h q2
    refine g_aload_n B dX6_workBy_8 0 rfl rfl ?_
    refine g_iload_n B dX6_workBy_9 1 rfl rfl ?_
    obtain ⟨S5, e6, h⟩ := lt_e h
    refine pt_X6_10 B m1 kf_X6_15 e6 dX6_workBy_10 ?_
    refine g_aload_n B dX6_workBy_13 0 rfl rfl ?_
    refine g_iconst (v := (0 : Int32)) B dX6_workBy_14 (by decide) ?_
    obtain ⟨S7, e8, h⟩ := lt_e h
    refine pt_X6_9 B m1 kf_X6_41 e8 dX6_workBy_15 ?_
    refine g_aload_n B dX6_workBy_18 0 rfl rfl ?_
    refine g_dup B dX6_workBy_19 rfl ?_
    refine gt_X6_9 B m1 kf_X6_41 dX6_workBy_20 ?_
    refine g_iload_n B dX6_workBy_23 2 rfl rfl ?_
    refine g_iadd B dX6_workBy_24 ?_
    obtain ⟨S9, e10, h⟩ := lt_e h
    refine pt_X6_9 B m1 kf_X6_41 e10 dX6_workBy_25 ?_
    obtain ⟨-, rfl⟩ := some_e h
    exact g_vret B dX6_workBy_28

def rm_X7_put : Room := { frames := 0, cells := 0, slots := 0, locals := 0 }
def f_X7_put_3 (cs : List (Nat × Nat)) (N : Nat)  : Nat → Int32 → Int32 → HS → Option (Unit × HS)
  | 0, _, _, _ => none
  | n + 1, v1, v2, S =>
    if v2 < 0 then (
      some ((), S))
    else (
      ck (mc cs 9 0) (
      if (500 : Int32) ≤ (gi S 9 0 0) then (
        some ((), S))
      else (
        ck (mc cs 10 0) (
        ck (inb (gi S 9 0 0) 500) (
        lt_ (ui S 10 0 (gi S 9 0 0).toNatClampNeg (vp_nar .byte ((v1 >>> (v2 &&& 31)).toInt8.toInt32))) (fun S6 =>
        lt_ (ui S6 9 0 0 ((gi S6 9 0 0) + (1 : Int32))) (fun S8 =>
        lt_ (v2 + (-8 : Int32)) (fun x10 =>
        f_X7_put_3 cs N n v1 x10 S8))))))))
set_option maxHeartbeats 4000000 in
set_option maxRecDepth 100000 in
theorem b_X7_put_3 {p : Program} {l : Launch} {e : Env} {s : State} {m : MethodId} {args : Array Value} {below : List Frame} {meth : Method} {c : Code} {D : va_G} {cy : Nat → ClassId} {cs : List (Nat × Nat)} {ad : Nat → Nat → Nat} {r : Unit} {Z : HS} (B : Bd p s m args meth c D cy cs ad cX7_put 3 RX7 none) (N : Nat)  : ∀ (n : Nat) (v1 : Int32) (v2 : Int32) (S : HS), f_X7_put_3 cs N n v1 v2 S = some (r, Z) → GW p l e rm_X7_put s m args below meth c (QM below args s D cy cs ad (none) Z) D cy cs ad 3 3 [(0, .ref (ad 9 0)), (1, .int v1), (2, .int v2)] [] S := by
  have hA := B.2.2.2.2.2.2.1
  intro n
  induction n with
  | zero => intro v1 v2 S h; cases h
  | succ n ih =>
    intro v1 v2 S h
    rw [f_X7_put_3] at h
    refine g_iload_n B dX7_put_3 2 rfl rfl ?_
    refine g_if_lt B 46 dX7_put_4 (by decide) (fun q1 => ?_) (fun q1 => ?_)
    · have h := if_t h q1
      obtain ⟨-, rfl⟩ := some_e h
      exact g_vret B dX7_put_46
    · have h := if_f h q1
      refine g_aload_n B dX7_put_7 0 rfl rfl ?_
      obtain ⟨m2, h⟩ := ck_e h
      refine gt_X7_0 B m2 kf_X7_15 dX7_put_8 ?_
      refine g_sipush (v := (500 : Int32)) B dX7_put_11 (by decide) ?_
      refine g_icmp_ge B 46 dX7_put_14 (by decide) (fun q3 => ?_) (fun q3 => ?_)
      · have h := if_t h q3
        obtain ⟨-, rfl⟩ := some_e h
        exact g_vret B dX7_put_46
      · have h := if_f h q3
        refine g_aload_n B dX7_put_17 0 rfl rfl ?_
        refine gt_X7_4 B m2 kf_X7_9 dX7_put_18 ?_
        refine g_aload_n B dX7_put_21 0 rfl rfl ?_
        refine gt_X7_0 B m2 kf_X7_15 dX7_put_22 ?_
        refine g_iload_n B dX7_put_25 1 rfl rfl ?_
        refine g_iload_n B dX7_put_26 2 rfl rfl ?_
        refine g_ishr B dX7_put_27 ?_
        refine g_i2b B dX7_put_28 ?_
        obtain ⟨m4, h⟩ := ck_e h
        obtain ⟨b5, h⟩ := ck_e h
        obtain ⟨S6, e7, h⟩ := lt_e h
        refine g_bast (n := 500) B m4 b5 (fun _ => rfl) e7 dX7_put_29 ?_
        refine g_aload_n B dX7_put_30 0 rfl rfl ?_
        refine g_dup B dX7_put_31 rfl ?_
        refine gt_X7_0 B m2 kf_X7_15 dX7_put_32 ?_
        refine g_iconst (v := (1 : Int32)) B dX7_put_35 (by decide) ?_
        refine g_iadd B dX7_put_36 ?_
        obtain ⟨S8, e9, h⟩ := lt_e h
        refine pt_X7_0 B m2 kf_X7_15 e9 dX7_put_37 ?_
        obtain ⟨x10, e11, h⟩ := lt_e h
        refine g_iinc (v := x10) (lv' := [(2, .int x10), (0, .ref (ad 9 0)), (1, .int v1)]) B dX7_put_40 (k := 2) rfl (by rw [e11]; rfl) (by decide) rfl ?_
        refine g_goto B 3 dX7_put_43 (by decide) ?_
        refine g_sub [1, 2, 0] rfl ?_
        exact ih _ _ _ h
def f_X7_put (cs : List (Nat × Nat)) (N : Nat) (a1 : Int32) (S : HS) : Option (Unit × HS) :=
  f_X7_put_3 cs N N a1 (24 : Int32) S
set_option maxHeartbeats 4000000 in
set_option maxRecDepth 100000 in
theorem c_X7_put {l : Launch} {D : va_G} {cy : Nat → ClassId} {cs : List (Nat × Nat)} {ad : Nat → Nat → Nat} (hA : AdOk cs ad) (N : Nat) (a1 : Int32) (S : HS) (r : Unit) (Z : HS) (h : f_X7_put cs N a1 S = some (r, Z)) : Ctr l yX7_put cX7_put 3 none rm_X7_put D cy cs ad [.ref (ad 9 0), .int a1] S (none) Z := by
  unfold f_X7_put at h
  refine Ctr.of hA RX7 (plainFor_of_name (by decide)) rfl [(0, .ref (ad 9 0)), (1, .int a1)] rfl (Nat.le_of_ble_eq_true rfl) (fun p e s m below meth c B => ?_)
  refine g_bipush (v := (24 : Int32)) B dX7_put_0 (by decide) ?_
  refine g_istore_n (lv' := [(2, .int (24 : Int32)), (0, .ref (ad 9 0)), (1, .int a1)]) B dX7_put_2 rfl (by decide) rfl ?_
  refine g_sub [1, 2, 0] rfl ?_
  exact b_X7_put_3 B N N _ _ _ h

def rm_X7_skipBlanks : Room := { frames := 0, cells := 0, slots := 0, locals := 0 }
def f_X7_skipBlanks_0 (cs : List (Nat × Nat)) (N : Nat)  : Nat → HS → Option (Unit × HS)
  | 0, _ => none
  | n + 1, S =>
    ck (mc cs 9 0) (
    if (gi S 9 0 0) ≤ (gi S 9 0 5) then (
      some ((), S))
    else (
      ck (mc cs 10 0) (
      ck (inb (gi S 9 0 5) 500) (
      if (gi S 10 0 (gi S 9 0 5).toNatClampNeg) = (32 : Int32) then (
        lt_ (ui S 9 0 5 ((gi S 9 0 5) + (1 : Int32))) (fun S6 =>
        f_X7_skipBlanks_0 cs N n  S6))
      else (
        ck (inb (gi S 9 0 5) 500) (
        if (gi S 10 0 (gi S 9 0 5).toNatClampNeg) = (10 : Int32) then (
          lt_ (ui S 9 0 5 ((gi S 9 0 5) + (1 : Int32))) (fun S10 =>
          f_X7_skipBlanks_0 cs N n  S10))
        else (
          some ((), S))))))))
set_option maxHeartbeats 4000000 in
set_option maxRecDepth 100000 in
theorem b_X7_skipBlanks_0 {p : Program} {l : Launch} {e : Env} {s : State} {m : MethodId} {args : Array Value} {below : List Frame} {meth : Method} {c : Code} {D : va_G} {cy : Nat → ClassId} {cs : List (Nat × Nat)} {ad : Nat → Nat → Nat} {r : Unit} {Z : HS} (B : Bd p s m args meth c D cy cs ad cX7_skipBlanks 1 RX7 none) (N : Nat)  : ∀ (n : Nat)  (S : HS), f_X7_skipBlanks_0 cs N n  S = some (r, Z) → GW p l e rm_X7_skipBlanks s m args below meth c (QM below args s D cy cs ad (none) Z) D cy cs ad 1 0 [(0, .ref (ad 9 0))] [] S := by
  have hA := B.2.2.2.2.2.2.1
  intro n
  induction n with
  | zero => intro  S h; cases h
  | succ n ih =>
    intro  S h
    rw [f_X7_skipBlanks_0] at h
    refine g_aload_n B dX7_skipBlanks_0 0 rfl rfl ?_
    obtain ⟨m1, h⟩ := ck_e h
    refine gt_X7_5 B m1 kf_X7_19 dX7_skipBlanks_1 ?_
    refine g_aload_n B dX7_skipBlanks_4 0 rfl rfl ?_
    refine gt_X7_0 B m1 kf_X7_15 dX7_skipBlanks_5 ?_
    refine g_icmp_ge B 52 dX7_skipBlanks_8 (by decide) (fun q2 => ?_) (fun q2 => ?_)
    · have h := if_t h q2
      obtain ⟨-, rfl⟩ := some_e h
      exact g_vret B dX7_skipBlanks_52
    · have h := if_f h q2
      refine g_aload_n B dX7_skipBlanks_11 0 rfl rfl ?_
      refine gt_X7_4 B m1 kf_X7_9 dX7_skipBlanks_12 ?_
      refine g_aload_n B dX7_skipBlanks_15 0 rfl rfl ?_
      refine gt_X7_5 B m1 kf_X7_19 dX7_skipBlanks_16 ?_
      obtain ⟨m3, h⟩ := ck_e h
      obtain ⟨b4, h⟩ := ck_e h
      refine g_bald (n := 500) B m3 (fun _ => rfl) b4 dX7_skipBlanks_19 ?_
      refine g_bipush (v := (32 : Int32)) B dX7_skipBlanks_20 (by decide) ?_
      refine g_icmp_eq B 39 dX7_skipBlanks_22 (by decide) (fun q5 => ?_) (fun q5 => ?_)
      · have h := if_t h q5
        refine g_aload_n B dX7_skipBlanks_39 0 rfl rfl ?_
        refine g_dup B dX7_skipBlanks_40 rfl ?_
        refine gt_X7_5 B m1 kf_X7_19 dX7_skipBlanks_41 ?_
        refine g_iconst (v := (1 : Int32)) B dX7_skipBlanks_44 (by decide) ?_
        refine g_iadd B dX7_skipBlanks_45 ?_
        obtain ⟨S6, e7, h⟩ := lt_e h
        refine pt_X7_5 B m1 kf_X7_19 e7 dX7_skipBlanks_46 ?_
        refine g_goto B 0 dX7_skipBlanks_49 (by decide) ?_
        exact ih  _ h
      · have h := if_f h q5
        refine g_aload_n B dX7_skipBlanks_25 0 rfl rfl ?_
        refine gt_X7_4 B m1 kf_X7_9 dX7_skipBlanks_26 ?_
        refine g_aload_n B dX7_skipBlanks_29 0 rfl rfl ?_
        refine gt_X7_5 B m1 kf_X7_19 dX7_skipBlanks_30 ?_
        obtain ⟨b8, h⟩ := ck_e h
        refine g_bald (n := 500) B m3 (fun _ => rfl) b8 dX7_skipBlanks_33 ?_
        refine g_bipush (v := (10 : Int32)) B dX7_skipBlanks_34 (by decide) ?_
        refine g_icmp_ne B 52 dX7_skipBlanks_36 (by decide) (fun q9 => ?_) (fun q9 => ?_)
        · have h := if_f h q9
          obtain ⟨-, rfl⟩ := some_e h
          exact g_vret B dX7_skipBlanks_52
        · have h := if_t h q9
          refine g_aload_n B dX7_skipBlanks_39 0 rfl rfl ?_
          refine g_dup B dX7_skipBlanks_40 rfl ?_
          refine gt_X7_5 B m1 kf_X7_19 dX7_skipBlanks_41 ?_
          refine g_iconst (v := (1 : Int32)) B dX7_skipBlanks_44 (by decide) ?_
          refine g_iadd B dX7_skipBlanks_45 ?_
          obtain ⟨S10, e11, h⟩ := lt_e h
          refine pt_X7_5 B m1 kf_X7_19 e11 dX7_skipBlanks_46 ?_
          refine g_goto B 0 dX7_skipBlanks_49 (by decide) ?_
          exact ih  _ h
def f_X7_skipBlanks (cs : List (Nat × Nat)) (N : Nat)  (S : HS) : Option (Unit × HS) :=
  f_X7_skipBlanks_0 cs N N  S
set_option maxHeartbeats 4000000 in
set_option maxRecDepth 100000 in
theorem c_X7_skipBlanks {l : Launch} {D : va_G} {cy : Nat → ClassId} {cs : List (Nat × Nat)} {ad : Nat → Nat → Nat} (hA : AdOk cs ad) (N : Nat)  (S : HS) (r : Unit) (Z : HS) (h : f_X7_skipBlanks cs N  S = some (r, Z)) : Ctr l yX7_skipBlanks cX7_skipBlanks 1 none rm_X7_skipBlanks D cy cs ad [.ref (ad 9 0)] S (none) Z := by
  unfold f_X7_skipBlanks at h
  refine Ctr.of hA RX7 (plainFor_of_name (by decide)) rfl [(0, .ref (ad 9 0))] rfl (Nat.le_of_ble_eq_true rfl) (fun p e s m below meth c B => ?_)
  exact b_X7_skipBlanks_0 B N N  _ h

def rm_X7_isWord : Room := { frames := 4, cells := 0, slots := 0, locals := 85 }
def f_X7_isWord_20 (cs : List (Nat × Nat)) (N : Nat)  : Nat → Nat → Int32 → HS → Option (Int32 × HS)
  | 0, _, _, _ => none
  | n + 1, k1, v2, S =>
    ck (decide (k1 < 8)) (
    ob (f_J0_length_8abf5 cs N k1 S) (fun r2 S3 =>
    if r2 ≤ v2 then (
      some ((1 : Int32), S3))
    else (
      ck (mc cs 9 0) (
      ck (mc cs 10 0) (
      ck (inb ((gi S3 9 0 2) + v2) 500) (
      ob (f_J0_charAt_5068e cs N k1 v2 S3) (fun r9 S10 =>
      if (gi S3 10 0 ((gi S3 9 0 2) + v2).toNatClampNeg) = r9 then (
        lt_ (v2 + (1 : Int32)) (fun x13 =>
        f_X7_isWord_20 cs N n k1 x13 S10))
      else (
        some ((0 : Int32), S10)))))))))
set_option maxHeartbeats 4000000 in
set_option maxRecDepth 100000 in
theorem b_X7_isWord_20 {p : Program} {l : Launch} {e : Env} {s : State} {m : MethodId} {args : Array Value} {below : List Frame} {meth : Method} {c : Code} {D : va_G} {cy : Nat → ClassId} {cs : List (Nat × Nat)} {ad : Nat → Nat → Nat} {r : Int32} {Z : HS} (B : Bd p s m args meth c D cy cs ad cX7_isWord 3 RX7 (some .boolean)) (N : Nat)  : ∀ (n : Nat) (k1 : Nat) (v2 : Int32) (S : HS), f_X7_isWord_20 cs N n k1 v2 S = some (r, Z) → GW p l e rm_X7_isWord s m args below meth c (QM below args s D cy cs ad (some (.int r)) Z) D cy cs ad 3 20 [(0, .ref (ad 9 0)), (1, .ref (ad 41 k1)), (2, .int v2)] [] S := by
  have hA := B.2.2.2.2.2.2.1
  intro n
  induction n with
  | zero => intro k1 v2 S h; cases h
  | succ n ih =>
    intro k1 v2 S h
    rw [f_X7_isWord_20] at h
    refine g_iload_n B dX7_isWord_20 2 rfl rfl ?_
    refine g_aload_n B dX7_isWord_21 1 rfl rfl ?_
    obtain ⟨m1, h⟩ := ck_e h
    have m1 := of_decide_eq_true m1
    obtain ⟨r2, S3, e4, h⟩ := ob_e h
    refine g_cvk (rest := [.int v2]) B (c_J0_length_8abf5 hA N _ _ _ _ e4) mf_J0_length_8abf5 km_X7_74 ⟨by decide, by decide⟩ ⟨rfl, rfl⟩ m1 rfl rfl (Nat.le_of_ble_eq_true rfl) dX7_isWord_22 ?_
    refine g_icmp_ge B 55 dX7_isWord_25 (by decide) (fun q5 => ?_) (fun q5 => ?_)
    · have h := if_t h q5
      refine g_iconst (v := (1 : Int32)) B dX7_isWord_55 (by decide) ?_
      obtain ⟨rfl, rfl⟩ := some_e h
      exact g_zret B (by decide) dX7_isWord_56
    · have h := if_f h q5
      refine g_aload_n B dX7_isWord_28 0 rfl rfl ?_
      obtain ⟨m6, h⟩ := ck_e h
      refine gt_X7_4 B m6 kf_X7_9 dX7_isWord_29 ?_
      refine g_aload_n B dX7_isWord_32 0 rfl rfl ?_
      refine gt_X7_2 B m6 kf_X7_28 dX7_isWord_33 ?_
      refine g_iload_n B dX7_isWord_36 2 rfl rfl ?_
      refine g_iadd B dX7_isWord_37 ?_
      obtain ⟨m7, h⟩ := ck_e h
      obtain ⟨b8, h⟩ := ck_e h
      refine g_bald (n := 500) B m7 (fun _ => rfl) b8 dX7_isWord_38 ?_
      refine g_aload_n B dX7_isWord_39 1 rfl rfl ?_
      refine g_iload_n B dX7_isWord_40 2 rfl rfl ?_
      obtain ⟨r9, S10, e11, h⟩ := ob_e h
      refine g_cvk (rest := [.int (gi S3 10 0 ((gi S3 9 0 2) + v2).toNatClampNeg)]) B (c_J0_charAt_5068e hA N _ _ _ _ _ e11) mf_J0_charAt_5068e km_X7_78 ⟨by decide, by decide⟩ ⟨rfl, rfl⟩ m1 rfl rfl (Nat.le_of_ble_eq_true rfl) dX7_isWord_41 ?_
      refine g_icmp_eq B 49 dX7_isWord_44 (by decide) (fun q12 => ?_) (fun q12 => ?_)
      · have h := if_t h q12
        obtain ⟨x13, e14, h⟩ := lt_e h
        refine g_iinc (v := x13) (lv' := [(2, .int x13), (0, .ref (ad 9 0)), (1, .ref (ad 41 k1))]) B dX7_isWord_49 (k := 2) rfl (by rw [e14]; rfl) (by decide) rfl ?_
        refine g_goto B 20 dX7_isWord_52 (by decide) ?_
        refine g_sub [1, 2, 0] rfl ?_
        exact ih _ _ _ h
      · have h := if_f h q12
        refine g_iconst (v := (0 : Int32)) B dX7_isWord_47 (by decide) ?_
        obtain ⟨rfl, rfl⟩ := some_e h
        exact g_zret B (by decide) dX7_isWord_48
def f_X7_isWord (cs : List (Nat × Nat)) (N : Nat) (a1 : Nat) (S : HS) : Option (Int32 × HS) :=
  ck (mc cs 9 0) (
  ck (decide (a1 < 8)) (
  ob (f_J0_length_8abf5 cs N a1 S) (fun r3 S4 =>
  if ((gi S 9 0 5) - (gi S 9 0 2)) = r3 then (
    f_X7_isWord_20 cs N N a1 (0 : Int32) S4)
  else (
    some ((0 : Int32), S4)))))
set_option maxHeartbeats 4000000 in
set_option maxRecDepth 100000 in
theorem c_X7_isWord {l : Launch} {D : va_G} {cy : Nat → ClassId} {cs : List (Nat × Nat)} {ad : Nat → Nat → Nat} (hA : AdOk cs ad) (N : Nat) (a1 : Nat) (S : HS) (r : Int32) (Z : HS) (h : f_X7_isWord cs N a1 S = some (r, Z)) : Ctr l yX7_isWord cX7_isWord 3 (some .boolean) rm_X7_isWord D cy cs ad [.ref (ad 9 0), .ref (ad 41 a1)] S (some (.int r)) Z := by
  unfold f_X7_isWord at h
  refine Ctr.of hA RX7 (plainFor_of_name (by decide)) rfl [(0, .ref (ad 9 0)), (1, .ref (ad 41 a1))] rfl (Nat.le_of_ble_eq_true rfl) (fun p e s m below meth c B => ?_)
  refine g_aload_n B dX7_isWord_0 0 rfl rfl ?_
  obtain ⟨m1, h⟩ := ck_e h
  refine gt_X7_5 B m1 kf_X7_19 dX7_isWord_1 ?_
  refine g_aload_n B dX7_isWord_4 0 rfl rfl ?_
  refine gt_X7_2 B m1 kf_X7_28 dX7_isWord_5 ?_
  refine g_isub B dX7_isWord_8 ?_
  refine g_aload_n B dX7_isWord_9 1 rfl rfl ?_
  obtain ⟨m2, h⟩ := ck_e h
  have m2 := of_decide_eq_true m2
  obtain ⟨r3, S4, e5, h⟩ := ob_e h
  refine g_cvk (rest := [.int ((gi S 9 0 5) - (gi S 9 0 2))]) B (c_J0_length_8abf5 hA N _ _ _ _ e5) mf_J0_length_8abf5 km_X7_74 ⟨by decide, by decide⟩ ⟨rfl, rfl⟩ m2 rfl rfl (Nat.le_of_ble_eq_true rfl) dX7_isWord_10 ?_
  refine g_icmp_eq B 18 dX7_isWord_13 (by decide) (fun q6 => ?_) (fun q6 => ?_)
  · have h := if_t h q6
    refine g_iconst (v := (0 : Int32)) B dX7_isWord_18 (by decide) ?_
    refine g_istore_n (lv' := [(2, .int (0 : Int32)), (0, .ref (ad 9 0)), (1, .ref (ad 41 a1))]) B dX7_isWord_19 rfl (by decide) rfl ?_
    refine g_sub [1, 2, 0] rfl ?_
    exact b_X7_isWord_20 B N N _ _ _ h
  · have h := if_f h q6
    refine g_iconst (v := (0 : Int32)) B dX7_isWord_16 (by decide) ?_
    obtain ⟨rfl, rfl⟩ := some_e h
    exact g_zret B (by decide) dX7_isWord_17

def rm_X7_isLetter : Room := { frames := 0, cells := 0, slots := 0, locals := 0 }
def f_X7_isLetter_12 (cs : List (Nat × Nat)) (N : Nat)  (v0 : Int32) (S : HS) : Option (Int32 × HS) :=
  if v0 < (65 : Int32) then (
    some ((0 : Int32), S))
  else (
    if (90 : Int32) < v0 then (
      some ((0 : Int32), S))
    else (
      some ((1 : Int32), S)))
set_option maxHeartbeats 4000000 in
set_option maxRecDepth 100000 in
theorem b_X7_isLetter_12 {p : Program} {l : Launch} {e : Env} {s : State} {m : MethodId} {args : Array Value} {below : List Frame} {meth : Method} {c : Code} {D : va_G} {cy : Nat → ClassId} {cs : List (Nat × Nat)} {ad : Nat → Nat → Nat} {r : Int32} {Z : HS} (B : Bd p s m args meth c D cy cs ad cX7_isLetter 1 RX7 (some .boolean)) (N : Nat)  (v0 : Int32) (S : HS) (h : f_X7_isLetter_12 cs N v0 S = some (r, Z)) : GW p l e rm_X7_isLetter s m args below meth c (QM below args s D cy cs ad (some (.int r)) Z) D cy cs ad 1 12 [(0, .int v0)] [] S := by
  have hA := B.2.2.2.2.2.2.1
  unfold f_X7_isLetter_12 at h
  refine g_iload_n B dX7_isLetter_12 0 rfl rfl ?_
  refine g_bipush (v := (65 : Int32)) B dX7_isLetter_13 (by decide) ?_
  refine g_icmp_lt B 28 dX7_isLetter_15 (by decide) (fun q1 => ?_) (fun q1 => ?_)
  · have h := if_t h q1
    refine g_iconst (v := (0 : Int32)) B dX7_isLetter_28 (by decide) ?_
    obtain ⟨rfl, rfl⟩ := some_e h
    exact g_zret B (by decide) dX7_isLetter_29
  · have h := if_f h q1
    refine g_iload_n B dX7_isLetter_18 0 rfl rfl ?_
    refine g_bipush (v := (90 : Int32)) B dX7_isLetter_19 (by decide) ?_
    refine g_icmp_gt B 28 dX7_isLetter_21 (by decide) (fun q2 => ?_) (fun q2 => ?_)
    · have h := if_t h q2
      refine g_iconst (v := (0 : Int32)) B dX7_isLetter_28 (by decide) ?_
      obtain ⟨rfl, rfl⟩ := some_e h
      exact g_zret B (by decide) dX7_isLetter_29
    · have h := if_f h q2
      refine g_iconst (v := (1 : Int32)) B dX7_isLetter_24 (by decide) ?_
      refine g_goto B 29 dX7_isLetter_25 (by decide) ?_
      obtain ⟨rfl, rfl⟩ := some_e h
      exact g_zret B (by decide) dX7_isLetter_29
def f_X7_isLetter (cs : List (Nat × Nat)) (N : Nat) (a1 : Int32) (S : HS) : Option (Int32 × HS) :=
  if a1 < (97 : Int32) then (
    f_X7_isLetter_12 cs N a1 S)
  else (
    if a1 ≤ (122 : Int32) then (
      some ((1 : Int32), S))
    else (
      f_X7_isLetter_12 cs N a1 S))
set_option maxHeartbeats 4000000 in
set_option maxRecDepth 100000 in
theorem c_X7_isLetter {l : Launch} {D : va_G} {cy : Nat → ClassId} {cs : List (Nat × Nat)} {ad : Nat → Nat → Nat} (hA : AdOk cs ad) (N : Nat) (a1 : Int32) (S : HS) (r : Int32) (Z : HS) (h : f_X7_isLetter cs N a1 S = some (r, Z)) : Ctr l yX7_isLetter cX7_isLetter 1 (some .boolean) rm_X7_isLetter D cy cs ad [.int a1] S (some (.int r)) Z := by
  unfold f_X7_isLetter at h
  refine Ctr.of hA RX7 (plainFor_of_name (by decide)) rfl [(0, .int a1)] rfl (Nat.le_of_ble_eq_true rfl) (fun p e s m below meth c B => ?_)
  refine g_iload_n B dX7_isLetter_0 0 rfl rfl ?_
  refine g_bipush (v := (97 : Int32)) B dX7_isLetter_1 (by decide) ?_
  refine g_icmp_lt B 12 dX7_isLetter_3 (by decide) (fun q1 => ?_) (fun q1 => ?_)
  · have h := if_t h q1
    exact b_X7_isLetter_12 B N _ _ h
  · have h := if_f h q1
    refine g_iload_n B dX7_isLetter_6 0 rfl rfl ?_
    refine g_bipush (v := (122 : Int32)) B dX7_isLetter_7 (by decide) ?_
    refine g_icmp_le B 24 dX7_isLetter_9 (by decide) (fun q2 => ?_) (fun q2 => ?_)
    · have h := if_t h q2
      refine g_iconst (v := (1 : Int32)) B dX7_isLetter_24 (by decide) ?_
      refine g_goto B 29 dX7_isLetter_25 (by decide) ?_
      obtain ⟨rfl, rfl⟩ := some_e h
      exact g_zret B (by decide) dX7_isLetter_29
    · have h := if_f h q2
      exact b_X7_isLetter_12 B N _ _ h

def rm_X7_isDigit : Room := { frames := 0, cells := 0, slots := 0, locals := 0 }
def f_X7_isDigit (cs : List (Nat × Nat)) (N : Nat) (a1 : Int32) (S : HS) : Option (Int32 × HS) :=
  if a1 < (48 : Int32) then (
    some ((0 : Int32), S))
  else (
    if (57 : Int32) < a1 then (
      some ((0 : Int32), S))
    else (
      some ((1 : Int32), S)))
set_option maxHeartbeats 4000000 in
set_option maxRecDepth 100000 in
theorem c_X7_isDigit {l : Launch} {D : va_G} {cy : Nat → ClassId} {cs : List (Nat × Nat)} {ad : Nat → Nat → Nat} (hA : AdOk cs ad) (N : Nat) (a1 : Int32) (S : HS) (r : Int32) (Z : HS) (h : f_X7_isDigit cs N a1 S = some (r, Z)) : Ctr l yX7_isDigit cX7_isDigit 1 (some .boolean) rm_X7_isDigit D cy cs ad [.int a1] S (some (.int r)) Z := by
  unfold f_X7_isDigit at h
  refine Ctr.of hA RX7 (plainFor_of_name (by decide)) rfl [(0, .int a1)] rfl (Nat.le_of_ble_eq_true rfl) (fun p e s m below meth c B => ?_)
  refine g_iload_n B dX7_isDigit_0 0 rfl rfl ?_
  refine g_bipush (v := (48 : Int32)) B dX7_isDigit_1 (by decide) ?_
  refine g_icmp_lt B 16 dX7_isDigit_3 (by decide) (fun q1 => ?_) (fun q1 => ?_)
  · have h := if_t h q1
    refine g_iconst (v := (0 : Int32)) B dX7_isDigit_16 (by decide) ?_
    obtain ⟨rfl, rfl⟩ := some_e h
    exact g_zret B (by decide) dX7_isDigit_17
  · have h := if_f h q1
    refine g_iload_n B dX7_isDigit_6 0 rfl rfl ?_
    refine g_bipush (v := (57 : Int32)) B dX7_isDigit_7 (by decide) ?_
    refine g_icmp_gt B 16 dX7_isDigit_9 (by decide) (fun q2 => ?_) (fun q2 => ?_)
    · have h := if_t h q2
      refine g_iconst (v := (0 : Int32)) B dX7_isDigit_16 (by decide) ?_
      obtain ⟨rfl, rfl⟩ := some_e h
      exact g_zret B (by decide) dX7_isDigit_17
    · have h := if_f h q2
      refine g_iconst (v := (1 : Int32)) B dX7_isDigit_12 (by decide) ?_
      refine g_goto B 17 dX7_isDigit_13 (by decide) ?_
      obtain ⟨rfl, rfl⟩ := some_e h
      exact g_zret B (by decide) dX7_isDigit_17

def rm_X0_lay : Room := { frames := 1, cells := 0, slots := 0, locals := 23 }
def f_X0_lay_94 (cs : List (Nat × Nat)) (N : Nat) (K19 : Nat → Nat → Nat → Int32 → Int32 → Int32 → HS → Option (Int32 × HS)) (k1 : Nat) (k2 : Nat) (k3 : Nat) (v4 : Int32) (v5 : Int32) (v6 : Int32) (v7 : Int32) (S : HS) : Option (Int32 × HS) :=
  if v7 < v4 then (
    lt_ ((v4 - v7)) (fun x2 =>
    lt_ (v6 + (1 : Int32)) (fun x4 =>
    K19 k1 k2 k3 x2 v5 x4 S)))
  else (
    ck (mc cs 14 0) (
    lt_ (ui S 14 0 0 v6) (fun S7 =>
    lt_ (ui S7 14 0 1 (v7 - v4)) (fun S9 =>
    some ((1 : Int32), S9)))))
set_option maxHeartbeats 4000000 in
set_option maxRecDepth 100000 in
theorem b_X0_lay_94 {p : Program} {l : Launch} {e : Env} {s : State} {m : MethodId} {args : Array Value} {below : List Frame} {meth : Method} {c : Code} {D : va_G} {cy : Nat → ClassId} {cs : List (Nat × Nat)} {ad : Nat → Nat → Nat} {r : Int32} {Z : HS} (B : Bd p s m args meth c D cy cs ad cX0_lay 8 RX0 (some .boolean)) (N : Nat) (K19 : Nat → Nat → Nat → Int32 → Int32 → Int32 → HS → Option (Int32 × HS)) (hK19 : ∀ (k1 : Nat) (k2 : Nat) (k3 : Nat) (v4 : Int32) (v5 : Int32) (v6 : Int32) (S : HS), K19 k1 k2 k3 v4 v5 v6 S = some (r, Z) → GW p l e rm_X0_lay s m args below meth c (QM below args s D cy cs ad (some (.int r)) Z) D cy cs ad 8 19 [(0, .ref (ad 14 0)), (1, .ref (ad 7 k1)), (2, .ref (ad 4 k2)), (3, .ref (ad 20 k3)), (4, .int v4), (5, .int v5), (6, .int v6)] [] S) (k1 : Nat) (k2 : Nat) (k3 : Nat) (v4 : Int32) (v5 : Int32) (v6 : Int32) (v7 : Int32) (S : HS) (h : f_X0_lay_94 cs N K19 k1 k2 k3 v4 v5 v6 v7 S = some (r, Z)) : GW p l e rm_X0_lay s m args below meth c (QM below args s D cy cs ad (some (.int r)) Z) D cy cs ad 8 94 [(0, .ref (ad 14 0)), (1, .ref (ad 7 k1)), (2, .ref (ad 4 k2)), (3, .ref (ad 20 k3)), (4, .int v4), (5, .int v5), (6, .int v6), (7, .int v7)] [] S := by
  have hA := B.2.2.2.2.2.2.1
  unfold f_X0_lay_94 at h
  refine g_iload B dX0_lay_94 4 rfl ?_
  refine g_iload B dX0_lay_96 7 rfl ?_
  refine g_icmp_gt B 118 dX0_lay_98 (by decide) (fun q1 => ?_) (fun q1 => ?_)
  · have h := if_t h q1
    refine g_iload B dX0_lay_118 4 rfl ?_
    refine g_iload B dX0_lay_120 7 rfl ?_
    refine g_isub B dX0_lay_122 ?_
    obtain ⟨x2, e3, h⟩ := lt_e h
    refine g_topi e3 ?_
    refine g_istore (lv' := [(4, .int x2), (0, .ref (ad 14 0)), (1, .ref (ad 7 k1)), (2, .ref (ad 4 k2)), (3, .ref (ad 20 k3)), (5, .int v5), (6, .int v6), (7, .int v7)]) B dX0_lay_123 (by decide) rfl ?_
    obtain ⟨x4, e5, h⟩ := lt_e h
    refine g_iinc (v := x4) (lv' := [(6, .int x4), (4, .int x2), (0, .ref (ad 14 0)), (1, .ref (ad 7 k1)), (2, .ref (ad 4 k2)), (3, .ref (ad 20 k3)), (5, .int v5), (7, .int v7)]) B dX0_lay_125 (k := 6) rfl (by rw [e5]; rfl) (by decide) rfl ?_
    refine g_goto B 19 dX0_lay_128 (by decide) ?_
    refine g_sub [2, 3, 4, 5, 1, 6, 0] rfl ?_
    exact hK19 _ _ _ _ _ _ _ h
  · have h := if_f h q1
    refine g_aload_n B dX0_lay_101 0 rfl rfl ?_
    refine g_iload B dX0_lay_102 6 rfl ?_
    obtain ⟨m6, h⟩ := ck_e h
    obtain ⟨S7, e8, h⟩ := lt_e h
    refine pt_X0_0 B m6 kf_X0_19 e8 dX0_lay_104 ?_
    refine g_aload_n B dX0_lay_107 0 rfl rfl ?_
    refine g_iload B dX0_lay_108 7 rfl ?_
    refine g_iload B dX0_lay_110 4 rfl ?_
    refine g_isub B dX0_lay_112 ?_
    obtain ⟨S9, e10, h⟩ := lt_e h
    refine pt_X0_1 B m6 kf_X0_27 e10 dX0_lay_113 ?_
    refine g_iconst (v := (1 : Int32)) B dX0_lay_116 (by decide) ?_
    obtain ⟨rfl, rfl⟩ := some_e h
    exact g_zret B (by decide) dX0_lay_117
def f_X0_lay_68 (cs : List (Nat × Nat)) (N : Nat) (K19 : Nat → Nat → Nat → Int32 → Int32 → Int32 → HS → Option (Int32 × HS)) (k1 : Nat) (k2 : Nat) (k3 : Nat) (v4 : Int32) (v6 : Int32) (v7 : Int32) (t0 : Int32) (S : HS) : Option (Int32 × HS) :=
  if t0 = 0 then (
    f_X0_lay_94 cs N K19 k1 k2 k3 v4 t0 v6 v7 S)
  else (
    ck (mc cs 4 k2) (
    ck (mc cs 7 k1) (
    ck (mc cs 20 k3) (
    ob (f_X5_allow cs N k3 (gi S 4 k2 0) (gi S 7 k1 1) v6 S) (fun r5 S6 =>
    if r5 = 0 then (
      some ((0 : Int32), S6))
    else (
      f_X0_lay_94 cs N K19 k1 k2 k3 v4 t0 v6 v7 S6))))))
set_option maxHeartbeats 4000000 in
set_option maxRecDepth 100000 in
theorem b_X0_lay_68 {p : Program} {l : Launch} {e : Env} {s : State} {m : MethodId} {args : Array Value} {below : List Frame} {meth : Method} {c : Code} {D : va_G} {cy : Nat → ClassId} {cs : List (Nat × Nat)} {ad : Nat → Nat → Nat} {r : Int32} {Z : HS} (B : Bd p s m args meth c D cy cs ad cX0_lay 8 RX0 (some .boolean)) (N : Nat) (K19 : Nat → Nat → Nat → Int32 → Int32 → Int32 → HS → Option (Int32 × HS)) (hK19 : ∀ (k1 : Nat) (k2 : Nat) (k3 : Nat) (v4 : Int32) (v5 : Int32) (v6 : Int32) (S : HS), K19 k1 k2 k3 v4 v5 v6 S = some (r, Z) → GW p l e rm_X0_lay s m args below meth c (QM below args s D cy cs ad (some (.int r)) Z) D cy cs ad 8 19 [(0, .ref (ad 14 0)), (1, .ref (ad 7 k1)), (2, .ref (ad 4 k2)), (3, .ref (ad 20 k3)), (4, .int v4), (5, .int v5), (6, .int v6)] [] S) (k1 : Nat) (k2 : Nat) (k3 : Nat) (v4 : Int32) (v6 : Int32) (v7 : Int32) (t0 : Int32) (S : HS) (h : f_X0_lay_68 cs N K19 k1 k2 k3 v4 v6 v7 t0 S = some (r, Z)) : GW p l e rm_X0_lay s m args below meth c (QM below args s D cy cs ad (some (.int r)) Z) D cy cs ad 8 68 [(0, .ref (ad 14 0)), (1, .ref (ad 7 k1)), (2, .ref (ad 4 k2)), (3, .ref (ad 20 k3)), (4, .int v4), (6, .int v6), (7, .int v7)] [.int t0] S := by
  have hA := B.2.2.2.2.2.2.1
  unfold f_X0_lay_68 at h
  refine g_istore (lv' := [(5, .int t0), (0, .ref (ad 14 0)), (1, .ref (ad 7 k1)), (2, .ref (ad 4 k2)), (3, .ref (ad 20 k3)), (4, .int v4), (6, .int v6), (7, .int v7)]) B dX0_lay_68 (by decide) rfl ?_
  refine g_iload B dX0_lay_70 0 rfl ?_
  refine g_if_eq B 94 dX0_lay_72 (by decide) (fun q1 => ?_) (fun q1 => ?_)
  · have h := if_t h q1
    refine g_sub [1, 2, 3, 4, 5, 0, 6, 7] rfl ?_
    exact b_X0_lay_94 B N _ hK19 _ _ _ _ _ _ _ _ h
  · have h := if_f h q1
    refine g_aload_n B dX0_lay_75 4 rfl rfl ?_
    refine g_aload_n B dX0_lay_76 3 rfl rfl ?_
    obtain ⟨m2, h⟩ := ck_e h
    refine gt_X2_0 B m2 kf_X0_7 dX0_lay_77 ?_
    refine g_aload_n B dX0_lay_80 2 rfl rfl ?_
    obtain ⟨m3, h⟩ := ck_e h
    refine gt_X6_1 B m3 kf_X0_34 dX0_lay_81 ?_
    refine g_iload B dX0_lay_84 6 rfl ?_
    obtain ⟨m4, h⟩ := ck_e h
    obtain ⟨r5, S6, e7, h⟩ := ob_e h
    refine g_cvi (rest := []) B (c_X5_allow hA N _ _ _ _ _ _ _ e7) mf_X5_allow km_X0_37 ⟨by decide, by decide⟩ ⟨rfl, rfl⟩ m4 rfl rfl rfl rfl (Nat.le_of_ble_eq_true rfl) dX0_lay_86 ?_
    refine g_if_ne B 94 dX0_lay_89 (by decide) (fun q8 => ?_) (fun q8 => ?_)
    · have h := if_f h q8
      refine g_sub [1, 2, 3, 4, 5, 0, 6, 7] rfl ?_
      exact b_X0_lay_94 B N _ hK19 _ _ _ _ _ _ _ _ h
    · have h := if_t h q8
      refine g_iconst (v := (0 : Int32)) B dX0_lay_92 (by decide) ?_
      obtain ⟨rfl, rfl⟩ := some_e h
      exact g_zret B (by decide) dX0_lay_93
def f_X0_lay_51 (cs : List (Nat × Nat)) (N : Nat) (K19 : Nat → Nat → Nat → Int32 → Int32 → Int32 → HS → Option (Int32 × HS)) (k1 : Nat) (k2 : Nat) (k3 : Nat) (v4 : Int32) (v5 : Int32) (v6 : Int32) (t0 : Int32) (S : HS) : Option (Int32 × HS) :=
  if v5 = 0 then (
    if t0 ≤ 0 then (
      f_X0_lay_68 cs N K19 k1 k2 k3 v4 v6 t0 (0 : Int32) S)
    else (
      f_X0_lay_68 cs N K19 k1 k2 k3 v4 v6 t0 (1 : Int32) S))
  else (
    f_X0_lay_68 cs N K19 k1 k2 k3 v4 v6 t0 (1 : Int32) S)
set_option maxHeartbeats 4000000 in
set_option maxRecDepth 100000 in
theorem b_X0_lay_51 {p : Program} {l : Launch} {e : Env} {s : State} {m : MethodId} {args : Array Value} {below : List Frame} {meth : Method} {c : Code} {D : va_G} {cy : Nat → ClassId} {cs : List (Nat × Nat)} {ad : Nat → Nat → Nat} {r : Int32} {Z : HS} (B : Bd p s m args meth c D cy cs ad cX0_lay 8 RX0 (some .boolean)) (N : Nat) (K19 : Nat → Nat → Nat → Int32 → Int32 → Int32 → HS → Option (Int32 × HS)) (hK19 : ∀ (k1 : Nat) (k2 : Nat) (k3 : Nat) (v4 : Int32) (v5 : Int32) (v6 : Int32) (S : HS), K19 k1 k2 k3 v4 v5 v6 S = some (r, Z) → GW p l e rm_X0_lay s m args below meth c (QM below args s D cy cs ad (some (.int r)) Z) D cy cs ad 8 19 [(0, .ref (ad 14 0)), (1, .ref (ad 7 k1)), (2, .ref (ad 4 k2)), (3, .ref (ad 20 k3)), (4, .int v4), (5, .int v5), (6, .int v6)] [] S) (k1 : Nat) (k2 : Nat) (k3 : Nat) (v4 : Int32) (v5 : Int32) (v6 : Int32) (t0 : Int32) (S : HS) (h : f_X0_lay_51 cs N K19 k1 k2 k3 v4 v5 v6 t0 S = some (r, Z)) : GW p l e rm_X0_lay s m args below meth c (QM below args s D cy cs ad (some (.int r)) Z) D cy cs ad 8 51 [(0, .ref (ad 14 0)), (1, .ref (ad 7 k1)), (2, .ref (ad 4 k2)), (3, .ref (ad 20 k3)), (4, .int v4), (5, .int v5), (6, .int v6)] [.int t0] S := by
  have hA := B.2.2.2.2.2.2.1
  unfold f_X0_lay_51 at h
  refine g_istore (lv' := [(7, .int t0), (0, .ref (ad 14 0)), (1, .ref (ad 7 k1)), (2, .ref (ad 4 k2)), (3, .ref (ad 20 k3)), (4, .int v4), (5, .int v5), (6, .int v6)]) B dX0_lay_51 (by decide) rfl ?_
  refine g_iload B dX0_lay_53 6 rfl ?_
  refine g_if_ne B 63 dX0_lay_55 (by decide) (fun q1 => ?_) (fun q1 => ?_)
  · have h := if_f h q1
    refine g_iconst (v := (1 : Int32)) B dX0_lay_63 (by decide) ?_
    refine g_goto B 68 dX0_lay_64 (by decide) ?_
    refine g_sub [1, 2, 3, 4, 5, 7, 0] rfl ?_
    exact b_X0_lay_68 B N _ hK19 _ _ _ _ _ _ _ _ h
  · have h := if_t h q1
    refine g_iload B dX0_lay_58 0 rfl ?_
    refine g_if_le B 67 dX0_lay_60 (by decide) (fun q2 => ?_) (fun q2 => ?_)
    · have h := if_t h q2
      refine g_iconst (v := (0 : Int32)) B dX0_lay_67 (by decide) ?_
      refine g_sub [1, 2, 3, 4, 5, 7, 0] rfl ?_
      exact b_X0_lay_68 B N _ hK19 _ _ _ _ _ _ _ _ h
    · have h := if_f h q2
      refine g_iconst (v := (1 : Int32)) B dX0_lay_63 (by decide) ?_
      refine g_goto B 68 dX0_lay_64 (by decide) ?_
      refine g_sub [1, 2, 3, 4, 5, 7, 0] rfl ?_
      exact b_X0_lay_68 B N _ hK19 _ _ _ _ _ _ _ _ h
def f_X0_lay_19 (cs : List (Nat × Nat)) (N : Nat)  : Nat → Nat → Nat → Nat → Int32 → Int32 → Int32 → HS → Option (Int32 × HS)
  | 0, _, _, _, _, _, _, _ => none
  | n + 1, k1, k2, k3, v4, v5, v6, S =>
    ck (mc cs 7 k1) (
    if (gi S 7 k1 3) < v6 then (
      some ((0 : Int32), S))
    else (
      ck (mc cs 14 0) (
      if v6 = (gi S 14 0 0) then (
        f_X0_lay_51 cs N (f_X0_lay_19 cs N n) k1 k2 k3 v4 v5 v6 (gi S 14 0 1) S)
      else (
        ck (mc cs 4 k2) (
        ck (mc cs 5 k2) (
        ck (inb v6 52) (
        f_X0_lay_51 cs N (f_X0_lay_19 cs N n) k1 k2 k3 v4 v5 v6 (gi S 5 k2 v6.toNatClampNeg) S)))))))
set_option maxHeartbeats 4000000 in
set_option maxRecDepth 100000 in
theorem b_X0_lay_19 {p : Program} {l : Launch} {e : Env} {s : State} {m : MethodId} {args : Array Value} {below : List Frame} {meth : Method} {c : Code} {D : va_G} {cy : Nat → ClassId} {cs : List (Nat × Nat)} {ad : Nat → Nat → Nat} {r : Int32} {Z : HS} (B : Bd p s m args meth c D cy cs ad cX0_lay 8 RX0 (some .boolean)) (N : Nat)  : ∀ (n : Nat) (k1 : Nat) (k2 : Nat) (k3 : Nat) (v4 : Int32) (v5 : Int32) (v6 : Int32) (S : HS), f_X0_lay_19 cs N n k1 k2 k3 v4 v5 v6 S = some (r, Z) → GW p l e rm_X0_lay s m args below meth c (QM below args s D cy cs ad (some (.int r)) Z) D cy cs ad 8 19 [(0, .ref (ad 14 0)), (1, .ref (ad 7 k1)), (2, .ref (ad 4 k2)), (3, .ref (ad 20 k3)), (4, .int v4), (5, .int v5), (6, .int v6)] [] S := by
  have hA := B.2.2.2.2.2.2.1
  intro n
  induction n with
  | zero => intro k1 k2 k3 v4 v5 v6 S h; cases h
  | succ n ih =>
    intro k1 k2 k3 v4 v5 v6 S h
    rw [f_X0_lay_19] at h
    refine g_iload B dX0_lay_19 6 rfl ?_
    refine g_aload_n B dX0_lay_21 1 rfl rfl ?_
    obtain ⟨m1, h⟩ := ck_e h
    refine gt_X6_3 B m1 kf_X0_24 dX0_lay_22 ?_
    refine g_icmp_gt B 131 dX0_lay_25 (by decide) (fun q2 => ?_) (fun q2 => ?_)
    · have h := if_t h q2
      refine g_iconst (v := (0 : Int32)) B dX0_lay_131 (by decide) ?_
      obtain ⟨rfl, rfl⟩ := some_e h
      exact g_zret B (by decide) dX0_lay_132
    · have h := if_f h q2
      refine g_iload B dX0_lay_28 6 rfl ?_
      refine g_aload_n B dX0_lay_30 0 rfl rfl ?_
      obtain ⟨m3, h⟩ := ck_e h
      refine gt_X0_0 B m3 kf_X0_19 dX0_lay_31 ?_
      refine g_icmp_ne B 44 dX0_lay_34 (by decide) (fun q4 => ?_) (fun q4 => ?_)
      · have h := if_f h q4
        refine g_aload_n B dX0_lay_44 2 rfl rfl ?_
        obtain ⟨m5, h⟩ := ck_e h
        refine gt_X2_1 B m5 kf_X0_30 dX0_lay_45 ?_
        refine g_iload B dX0_lay_48 6 rfl ?_
        obtain ⟨m6, h⟩ := ck_e h
        obtain ⟨b7, h⟩ := ck_e h
        refine g_iald (n := 52) B m6 (fun _ => rfl) b7 dX0_lay_50 ?_
        exact b_X0_lay_51 B N _ ih _ _ _ _ _ _ _ _ h
      · have h := if_t h q4
        refine g_aload_n B dX0_lay_37 0 rfl rfl ?_
        refine gt_X0_1 B m3 kf_X0_27 dX0_lay_38 ?_
        refine g_goto B 51 dX0_lay_41 (by decide) ?_
        exact b_X0_lay_51 B N _ ih _ _ _ _ _ _ _ _ h
def f_X0_lay (cs : List (Nat × Nat)) (N : Nat) (a1 : Nat) (a2 : Nat) (a3 : Nat) (S : HS) : Option (Int32 × HS) :=
  ck (mc cs 4 a2) (
  ck (mc cs 7 a1) (
  ob (f_X6_hoursLeftFor cs N a1 (gi S 4 a2 0) S) (fun r3 S4 =>
  ck (mc cs 14 0) (
  lt_ ((gi S4 14 0 0)) (fun x7 =>
  f_X0_lay_19 cs N N a1 a2 a3 r3 (0 : Int32) x7 S4)))))
set_option maxHeartbeats 4000000 in
set_option maxRecDepth 100000 in
theorem c_X0_lay {l : Launch} {D : va_G} {cy : Nat → ClassId} {cs : List (Nat × Nat)} {ad : Nat → Nat → Nat} (hA : AdOk cs ad) (N : Nat) (a1 : Nat) (a2 : Nat) (a3 : Nat) (S : HS) (r : Int32) (Z : HS) (h : f_X0_lay cs N a1 a2 a3 S = some (r, Z)) : Ctr l yX0_lay cX0_lay 8 (some .boolean) rm_X0_lay D cy cs ad [.ref (ad 14 0), .ref (ad 7 a1), .ref (ad 4 a2), .ref (ad 20 a3)] S (some (.int r)) Z := by
  unfold f_X0_lay at h
  refine Ctr.of hA RX0 (plainFor_of_name (by decide)) rfl [(0, .ref (ad 14 0)), (1, .ref (ad 7 a1)), (2, .ref (ad 4 a2)), (3, .ref (ad 20 a3))] rfl (Nat.le_of_ble_eq_true rfl) (fun p e s m below meth c B => ?_)
  refine g_aload_n B dX0_lay_0 1 rfl rfl ?_
  refine g_aload_n B dX0_lay_1 2 rfl rfl ?_
  obtain ⟨m1, h⟩ := ck_e h
  refine gt_X2_0 B m1 kf_X0_7 dX0_lay_2 ?_
  obtain ⟨m2, h⟩ := ck_e h
  obtain ⟨r3, S4, e5, h⟩ := ob_e h
  refine g_cvi (rest := []) B (c_X6_hoursLeftFor hA N _ _ _ _ _ e5) mf_X6_hoursLeftFor km_X0_13 ⟨by decide, by decide⟩ ⟨rfl, rfl⟩ m2 rfl rfl rfl rfl (Nat.le_of_ble_eq_true rfl) dX0_lay_5 ?_
  refine g_istore (lv' := [(4, .int r3), (0, .ref (ad 14 0)), (1, .ref (ad 7 a1)), (2, .ref (ad 4 a2)), (3, .ref (ad 20 a3))]) B dX0_lay_8 (by decide) rfl ?_
  refine g_iconst (v := (0 : Int32)) B dX0_lay_10 (by decide) ?_
  refine g_istore (lv' := [(5, .int (0 : Int32)), (4, .int r3), (0, .ref (ad 14 0)), (1, .ref (ad 7 a1)), (2, .ref (ad 4 a2)), (3, .ref (ad 20 a3))]) B dX0_lay_11 (by decide) rfl ?_
  refine g_aload_n B dX0_lay_13 2 rfl rfl ?_
  obtain ⟨m6, h⟩ := ck_e h
  refine gt_X0_0 B m6 kf_X0_19 dX0_lay_14 ?_
  obtain ⟨x7, e8, h⟩ := lt_e h
  refine g_topi e8 ?_
  refine g_istore (lv' := [(6, .int x7), (5, .int (0 : Int32)), (4, .int r3), (0, .ref (ad 14 0)), (1, .ref (ad 7 a1)), (2, .ref (ad 4 a2)), (3, .ref (ad 20 a3))]) B dX0_lay_17 (by decide) rfl ?_
  refine g_sub [3, 4, 5, 6, 2, 1, 0] rfl ?_
  exact b_X0_lay_19 B N N _ _ _ _ _ _ _ h

def rm_X1_tell : Room := { frames := 2, cells := 0, slots := 0, locals := 44 }
def f_X1_tell (cs : List (Nat × Nat)) (N : Nat) (a1 : Int32) (a2 : Nat) (S : HS) : Option (Unit × HS) :=
  if a1 = (4 : Int32) then (
    ck (mc cs 8 0) (
    ck (mc cs 11 0) (
    ck (inb (0 : Int32) 3) (
    ck (inb (1 : Int32) 3) (
    ck (mc cs 20 a2) (
    ob (f_X5_give cs N a2 (gi S 11 0 (0 : Int32).toNatClampNeg) (gi S 11 0 (1 : Int32).toNatClampNeg) S) (fun r7 S8 =>
    some ((), S8))))))))
  else (
  if a1 = (6 : Int32) then (
    ck (mc cs 8 0) (
    ck (mc cs 11 0) (
    ck (inb (0 : Int32) 3) (
    ck (inb (1 : Int32) 3) (
    ck (inb (2 : Int32) 3) (
    ck (mc cs 20 a2) (
    ob (f_X5_share cs N a2 (gi S 11 0 (0 : Int32).toNatClampNeg) (gi S 11 0 (1 : Int32).toNatClampNeg) (gi S 11 0 (2 : Int32).toNatClampNeg) S) (fun r17 S18 =>
    some ((), S18)))))))))
  else (
  if a1 = (9 : Int32) then (
    ck (mc cs 8 0) (
    ck (mc cs 11 0) (
    ck (inb (0 : Int32) 3) (
    ck (inb (1 : Int32) 3) (
    ck (inb (2 : Int32) 3) (
    ck (mc cs 20 a2) (
    ob (f_X5_shut cs N a2 (gi S 11 0 (0 : Int32).toNatClampNeg) (gi S 11 0 (1 : Int32).toNatClampNeg) (gi S 11 0 (2 : Int32).toNatClampNeg) S) (fun r27 S28 =>
    some ((), S28)))))))))
  else (
  ck (mc cs 8 0) (
  ck (mc cs 11 0) (
  ck (inb (0 : Int32) 3) (
  ck (mc cs 20 a2) (
  ob (f_X5_give cs N a2 (gi S 11 0 (0 : Int32).toNatClampNeg) (-1 : Int32) S) (fun r34 S35 =>
  some ((), S35)))))))))
set_option maxHeartbeats 4000000 in
set_option maxRecDepth 100000 in
theorem c_X1_tell {l : Launch} {D : va_G} {cy : Nat → ClassId} {cs : List (Nat × Nat)} {ad : Nat → Nat → Nat} (hA : AdOk cs ad) (N : Nat) (a1 : Int32) (a2 : Nat) (S : HS) (r : Unit) (Z : HS) (h : f_X1_tell cs N a1 a2 S = some (r, Z)) : Ctr l yX1_tell cX1_tell 3 none rm_X1_tell D cy cs ad [.ref (ad 8 0), .int a1, .ref (ad 20 a2)] S (none) Z := by
  unfold f_X1_tell at h
  refine Ctr.of hA RX1 (plainFor_of_name (by decide)) rfl [(0, .ref (ad 8 0)), (1, .int a1), (2, .ref (ad 20 a2))] rfl (Nat.le_of_ble_eq_true rfl) (fun p e s m below meth c B => ?_)
  refine g_iload_n B dX1_tell_0 1 rfl rfl ?_
  by_cases q1 : a1 = (4 : Int32)
  · have h := if_t h q1
    refine g_lookup (off := 35) B 36 dX1_tell_1 (by decide) (by rw [q1]; decide) (by decide) ?_
    refine g_aload_n B dX1_tell_36 2 rfl rfl ?_
    refine g_aload_n B dX1_tell_37 0 rfl rfl ?_
    obtain ⟨m2, h⟩ := ck_e h
    refine gt_X1_4 B m2 kf_X1_22 dX1_tell_38 ?_
    refine g_iconst (v := (0 : Int32)) B dX1_tell_41 (by decide) ?_
    obtain ⟨m3, h⟩ := ck_e h
    obtain ⟨b4, h⟩ := ck_e h
    refine g_iald (n := 3) B m3 (fun _ => rfl) b4 dX1_tell_42 ?_
    refine g_aload_n B dX1_tell_43 0 rfl rfl ?_
    refine gt_X1_4 B m2 kf_X1_22 dX1_tell_44 ?_
    refine g_iconst (v := (1 : Int32)) B dX1_tell_47 (by decide) ?_
    obtain ⟨b5, h⟩ := ck_e h
    refine g_iald (n := 3) B m3 (fun _ => rfl) b5 dX1_tell_48 ?_
    obtain ⟨m6, h⟩ := ck_e h
    obtain ⟨r7, S8, e9, h⟩ := ob_e h
    refine g_cvv (rest := []) B (c_X5_give hA N _ _ _ _ _ _ e9) mf_X5_give km_X1_92 ⟨by decide, by decide⟩ ⟨rfl, rfl⟩ m6 rfl rfl rfl rfl (Nat.le_of_ble_eq_true rfl) dX1_tell_49 ?_
    refine g_goto B 116 dX1_tell_52 (by decide) ?_
    obtain ⟨-, rfl⟩ := some_e h
    exact g_vret B dX1_tell_116
  have h := if_f h q1
  by_cases q10 : a1 = (6 : Int32)
  · have h := if_t h q10
    refine g_lookup (off := 54) B 55 dX1_tell_1 (by decide) (by rw [q10]; decide) (by decide) ?_
    refine g_aload_n B dX1_tell_55 2 rfl rfl ?_
    refine g_aload_n B dX1_tell_56 0 rfl rfl ?_
    obtain ⟨m11, h⟩ := ck_e h
    refine gt_X1_4 B m11 kf_X1_22 dX1_tell_57 ?_
    refine g_iconst (v := (0 : Int32)) B dX1_tell_60 (by decide) ?_
    obtain ⟨m12, h⟩ := ck_e h
    obtain ⟨b13, h⟩ := ck_e h
    refine g_iald (n := 3) B m12 (fun _ => rfl) b13 dX1_tell_61 ?_
    refine g_aload_n B dX1_tell_62 0 rfl rfl ?_
    refine gt_X1_4 B m11 kf_X1_22 dX1_tell_63 ?_
    refine g_iconst (v := (1 : Int32)) B dX1_tell_66 (by decide) ?_
    obtain ⟨b14, h⟩ := ck_e h
    refine g_iald (n := 3) B m12 (fun _ => rfl) b14 dX1_tell_67 ?_
    refine g_aload_n B dX1_tell_68 0 rfl rfl ?_
    refine gt_X1_4 B m11 kf_X1_22 dX1_tell_69 ?_
    refine g_iconst (v := (2 : Int32)) B dX1_tell_72 (by decide) ?_
    obtain ⟨b15, h⟩ := ck_e h
    refine g_iald (n := 3) B m12 (fun _ => rfl) b15 dX1_tell_73 ?_
    obtain ⟨m16, h⟩ := ck_e h
    obtain ⟨r17, S18, e19, h⟩ := ob_e h
    refine g_cvv (rest := []) B (c_X5_share hA N _ _ _ _ _ _ _ e19) mf_X5_share km_X1_96 ⟨by decide, by decide⟩ ⟨rfl, rfl⟩ m16 rfl rfl rfl rfl (Nat.le_of_ble_eq_true rfl) dX1_tell_74 ?_
    refine g_goto B 116 dX1_tell_77 (by decide) ?_
    obtain ⟨-, rfl⟩ := some_e h
    exact g_vret B dX1_tell_116
  have h := if_f h q10
  by_cases q20 : a1 = (9 : Int32)
  · have h := if_t h q20
    refine g_lookup (off := 79) B 80 dX1_tell_1 (by decide) (by rw [q20]; decide) (by decide) ?_
    refine g_aload_n B dX1_tell_80 2 rfl rfl ?_
    refine g_aload_n B dX1_tell_81 0 rfl rfl ?_
    obtain ⟨m21, h⟩ := ck_e h
    refine gt_X1_4 B m21 kf_X1_22 dX1_tell_82 ?_
    refine g_iconst (v := (0 : Int32)) B dX1_tell_85 (by decide) ?_
    obtain ⟨m22, h⟩ := ck_e h
    obtain ⟨b23, h⟩ := ck_e h
    refine g_iald (n := 3) B m22 (fun _ => rfl) b23 dX1_tell_86 ?_
    refine g_aload_n B dX1_tell_87 0 rfl rfl ?_
    refine gt_X1_4 B m21 kf_X1_22 dX1_tell_88 ?_
    refine g_iconst (v := (1 : Int32)) B dX1_tell_91 (by decide) ?_
    obtain ⟨b24, h⟩ := ck_e h
    refine g_iald (n := 3) B m22 (fun _ => rfl) b24 dX1_tell_92 ?_
    refine g_aload_n B dX1_tell_93 0 rfl rfl ?_
    refine gt_X1_4 B m21 kf_X1_22 dX1_tell_94 ?_
    refine g_iconst (v := (2 : Int32)) B dX1_tell_97 (by decide) ?_
    obtain ⟨b25, h⟩ := ck_e h
    refine g_iald (n := 3) B m22 (fun _ => rfl) b25 dX1_tell_98 ?_
    obtain ⟨m26, h⟩ := ck_e h
    obtain ⟨r27, S28, e29, h⟩ := ob_e h
    refine g_cvv (rest := []) B (c_X5_shut hA N _ _ _ _ _ _ _ e29) mf_X5_shut km_X1_100 ⟨by decide, by decide⟩ ⟨rfl, rfl⟩ m26 rfl rfl rfl rfl (Nat.le_of_ble_eq_true rfl) dX1_tell_99 ?_
    refine g_goto B 116 dX1_tell_102 (by decide) ?_
    obtain ⟨-, rfl⟩ := some_e h
    exact g_vret B dX1_tell_116
  have h := if_f h q20
  refine g_lookup (off := 104) B 105 dX1_tell_1 (by decide) (by show Op.lookupswitch.offset [(4, 35), (6, 54), (9, 79)] 104 _ = _; rw [lv_osw q1 (by decide), lv_osw q10 (by decide), lv_osw q20 (by decide)]; rfl) (by decide) ?_
  refine g_aload_n B dX1_tell_105 2 rfl rfl ?_
  refine g_aload_n B dX1_tell_106 0 rfl rfl ?_
  obtain ⟨m30, h⟩ := ck_e h
  refine gt_X1_4 B m30 kf_X1_22 dX1_tell_107 ?_
  refine g_iconst (v := (0 : Int32)) B dX1_tell_110 (by decide) ?_
  obtain ⟨m31, h⟩ := ck_e h
  obtain ⟨b32, h⟩ := ck_e h
  refine g_iald (n := 3) B m31 (fun _ => rfl) b32 dX1_tell_111 ?_
  refine g_iconst (v := (-1 : Int32)) B dX1_tell_112 (by decide) ?_
  obtain ⟨m33, h⟩ := ck_e h
  obtain ⟨r34, S35, e36, h⟩ := ob_e h
  refine g_cvv (rest := []) B (c_X5_give hA N _ _ _ _ _ _ e36) mf_X5_give km_X1_92 ⟨by decide, by decide⟩ ⟨rfl, rfl⟩ m33 rfl rfl rfl rfl (Nat.le_of_ble_eq_true rfl) dX1_tell_113 ?_
  obtain ⟨-, rfl⟩ := some_e h
  exact g_vret B dX1_tell_116

def rm_X5_forget : Room := { frames := 1, cells := 0, slots := 0, locals := 23 }
def f_X5_forget_2 (cs : List (Nat × Nat)) (N : Nat)  : Nat → Nat → Int32 → HS → Option (Unit × HS)
  | 0, _, _, _ => none
  | n + 1, k0, v1, S =>
    if (6 : Int32) ≤ v1 then (
      some ((), S))
    else (
      ck (mc cs 20 k0) (
      ob (f_X5_give cs N k0 v1 (-1 : Int32) S) (fun r3 S4 =>
      ck (mc cs 24 k0) (
      ck (inb v1 6) (
      lt_ (ul S4 24 k0 v1.toNatClampNeg (0 : Int64)) (fun S8 =>
      lt_ (v1 + (1 : Int32)) (fun x10 =>
      f_X5_forget_2 cs N n k0 x10 S8)))))))
set_option maxHeartbeats 4000000 in
set_option maxRecDepth 100000 in
theorem b_X5_forget_2 {p : Program} {l : Launch} {e : Env} {s : State} {m : MethodId} {args : Array Value} {below : List Frame} {meth : Method} {c : Code} {D : va_G} {cy : Nat → ClassId} {cs : List (Nat × Nat)} {ad : Nat → Nat → Nat} {r : Unit} {Z : HS} (B : Bd p s m args meth c D cy cs ad cX5_forget 2 RX5 none) (N : Nat)  : ∀ (n : Nat) (k0 : Nat) (v1 : Int32) (S : HS), f_X5_forget_2 cs N n k0 v1 S = some (r, Z) → GW p l e rm_X5_forget s m args below meth c (QM below args s D cy cs ad (none) Z) D cy cs ad 2 2 [(0, .ref (ad 20 k0)), (1, .int v1)] [] S := by
  have hA := B.2.2.2.2.2.2.1
  intro n
  induction n with
  | zero => intro k0 v1 S h; cases h
  | succ n ih =>
    intro k0 v1 S h
    rw [f_X5_forget_2] at h
    refine g_iload_n B dX5_forget_2 1 rfl rfl ?_
    refine g_bipush (v := (6 : Int32)) B dX5_forget_3 (by decide) ?_
    refine g_icmp_ge B 27 dX5_forget_5 (by decide) (fun q1 => ?_) (fun q1 => ?_)
    · have h := if_t h q1
      obtain ⟨-, rfl⟩ := some_e h
      exact g_vret B dX5_forget_27
    · have h := if_f h q1
      refine g_aload_n B dX5_forget_8 0 rfl rfl ?_
      refine g_iload_n B dX5_forget_9 1 rfl rfl ?_
      refine g_iconst (v := (-1 : Int32)) B dX5_forget_10 (by decide) ?_
      obtain ⟨m2, h⟩ := ck_e h
      obtain ⟨r3, S4, e5, h⟩ := ob_e h
      refine g_cvv (rest := []) B (c_X5_give hA N _ _ _ _ _ _ e5) mf_X5_give km_X5_27 ⟨by decide, by decide⟩ ⟨rfl, rfl⟩ m2 rfl rfl rfl rfl (Nat.le_of_ble_eq_true rfl) dX5_forget_11 ?_
      refine g_aload_n B dX5_forget_14 0 rfl rfl ?_
      refine gt_X5_2 B m2 kf_X5_20 dX5_forget_15 ?_
      refine g_iload_n B dX5_forget_18 1 rfl rfl ?_
      refine g_lconst (v := (0 : Int64)) B dX5_forget_19 rfl ?_
      obtain ⟨m6, h⟩ := ck_e h
      obtain ⟨b7, h⟩ := ck_e h
      obtain ⟨S8, e9, h⟩ := lt_e h
      refine g_last (n := 6) B m6 b7 (fun _ => rfl) e9 dX5_forget_20 ?_
      obtain ⟨x10, e11, h⟩ := lt_e h
      refine g_iinc (v := x10) (lv' := [(1, .int x10), (0, .ref (ad 20 k0))]) B dX5_forget_21 (k := 1) rfl (by rw [e11]; rfl) (by decide) rfl ?_
      refine g_goto B 2 dX5_forget_24 (by decide) ?_
      refine g_sub [1, 0] rfl ?_
      exact ih _ _ _ h
def f_X5_forget (cs : List (Nat × Nat)) (N : Nat) (k : Nat) (S : HS) : Option (Unit × HS) :=
  f_X5_forget_2 cs N N k (0 : Int32) S
set_option maxHeartbeats 4000000 in
set_option maxRecDepth 100000 in
theorem c_X5_forget {l : Launch} {D : va_G} {cy : Nat → ClassId} {cs : List (Nat × Nat)} {ad : Nat → Nat → Nat} (hA : AdOk cs ad) (N : Nat) (k : Nat) (S : HS) (r : Unit) (Z : HS) (h : f_X5_forget cs N k S = some (r, Z)) : Ctr l yX5_forget cX5_forget 2 none rm_X5_forget D cy cs ad [.ref (ad 20 k)] S (none) Z := by
  unfold f_X5_forget at h
  refine Ctr.of hA RX5 (plainFor_of_name (by decide)) rfl [(0, .ref (ad 20 k))] rfl (Nat.le_of_ble_eq_true rfl) (fun p e s m below meth c B => ?_)
  refine g_iconst (v := (0 : Int32)) B dX5_forget_0 (by decide) ?_
  refine g_istore_n (lv' := [(1, .int (0 : Int32)), (0, .ref (ad 20 k))]) B dX5_forget_1 rfl (by decide) rfl ?_
  refine g_sub [1, 0] rfl ?_
  exact b_X5_forget_2 B N N _ _ _ h

def rm_X7_readNumber : Room := { frames := 1, cells := 0, slots := 0, locals := 20 }
def f_X7_readNumber_68 (cs : List (Nat × Nat)) (N : Nat)   (S : HS) : Option (Unit × HS) :=
  ck (mc cs 9 0) (
  if (2 : Int32) < ((gi S 9 0 5) - (gi S 9 0 2)) then (
    lt_ (ui S 9 0 1 (0 : Int32)) (fun S3 =>
    some ((), S3)))
  else (
    lt_ (ui S 9 0 1 (3 : Int32)) (fun S5 =>
    some ((), S5))))
set_option maxHeartbeats 4000000 in
set_option maxRecDepth 100000 in
theorem b_X7_readNumber_68 {p : Program} {l : Launch} {e : Env} {s : State} {m : MethodId} {args : Array Value} {below : List Frame} {meth : Method} {c : Code} {D : va_G} {cy : Nat → ClassId} {cs : List (Nat × Nat)} {ad : Nat → Nat → Nat} {r : Unit} {Z : HS} (B : Bd p s m args meth c D cy cs ad cX7_readNumber 1 RX7 none) (N : Nat)   (S : HS) (h : f_X7_readNumber_68 cs N  S = some (r, Z)) : GW p l e rm_X7_readNumber s m args below meth c (QM below args s D cy cs ad (none) Z) D cy cs ad 1 68 [(0, .ref (ad 9 0))] [] S := by
  have hA := B.2.2.2.2.2.2.1
  unfold f_X7_readNumber_68 at h
  refine g_aload_n B dX7_readNumber_68 0 rfl rfl ?_
  refine g_aload_n B dX7_readNumber_69 0 rfl rfl ?_
  obtain ⟨m1, h⟩ := ck_e h
  refine gt_X7_5 B m1 kf_X7_19 dX7_readNumber_70 ?_
  refine g_aload_n B dX7_readNumber_73 0 rfl rfl ?_
  refine gt_X7_2 B m1 kf_X7_28 dX7_readNumber_74 ?_
  refine g_isub B dX7_readNumber_77 ?_
  refine g_iconst (v := (2 : Int32)) B dX7_readNumber_78 (by decide) ?_
  refine g_icmp_gt B 86 dX7_readNumber_79 (by decide) (fun q2 => ?_) (fun q2 => ?_)
  · have h := if_t h q2
    refine g_iconst (v := (0 : Int32)) B dX7_readNumber_86 (by decide) ?_
    obtain ⟨S3, e4, h⟩ := lt_e h
    refine pt_X7_1 B m1 kf_X7_31 e4 dX7_readNumber_87 ?_
    obtain ⟨-, rfl⟩ := some_e h
    exact g_vret B dX7_readNumber_90
  · have h := if_f h q2
    refine g_iconst (v := (3 : Int32)) B dX7_readNumber_82 (by decide) ?_
    refine g_goto B 87 dX7_readNumber_83 (by decide) ?_
    obtain ⟨S5, e6, h⟩ := lt_e h
    refine pt_X7_1 B m1 kf_X7_31 e6 dX7_readNumber_87 ?_
    obtain ⟨-, rfl⟩ := some_e h
    exact g_vret B dX7_readNumber_90
def f_X7_readNumber_5 (cs : List (Nat × Nat)) (N : Nat)  : Nat → HS → Option (Unit × HS)
  | 0, _ => none
  | n + 1, S =>
    ck (mc cs 9 0) (
    if (gi S 9 0 0) ≤ (gi S 9 0 5) then (
      f_X7_readNumber_68 cs N  S)
    else (
      ck (mc cs 10 0) (
      ck (inb (gi S 9 0 5) 500) (
      ob (f_X7_isDigit cs N (gi S 10 0 (gi S 9 0 5).toNatClampNeg) S) (fun r5 S6 =>
      if r5 = 0 then (
        f_X7_readNumber_68 cs N  S6)
      else (
        ck (inb (gi S6 9 0 5) 500) (
        lt_ (ui S6 9 0 3 (((gi S6 9 0 3) * (10 : Int32)) + ((gi S6 10 0 (gi S6 9 0 5).toNatClampNeg) - (48 : Int32)))) (fun S10 =>
        lt_ (ui S10 9 0 5 ((gi S10 9 0 5) + (1 : Int32))) (fun S12 =>
        f_X7_readNumber_5 cs N n  S12)))))))))
set_option maxHeartbeats 4000000 in
set_option maxRecDepth 100000 in
theorem b_X7_readNumber_5 {p : Program} {l : Launch} {e : Env} {s : State} {m : MethodId} {args : Array Value} {below : List Frame} {meth : Method} {c : Code} {D : va_G} {cy : Nat → ClassId} {cs : List (Nat × Nat)} {ad : Nat → Nat → Nat} {r : Unit} {Z : HS} (B : Bd p s m args meth c D cy cs ad cX7_readNumber 1 RX7 none) (N : Nat)  : ∀ (n : Nat)  (S : HS), f_X7_readNumber_5 cs N n  S = some (r, Z) → GW p l e rm_X7_readNumber s m args below meth c (QM below args s D cy cs ad (none) Z) D cy cs ad 1 5 [(0, .ref (ad 9 0))] [] S := by
  have hA := B.2.2.2.2.2.2.1
  intro n
  induction n with
  | zero => intro  S h; cases h
  | succ n ih =>
    intro  S h
    rw [f_X7_readNumber_5] at h
    refine g_aload_n B dX7_readNumber_5 0 rfl rfl ?_
    obtain ⟨m1, h⟩ := ck_e h
    refine gt_X7_5 B m1 kf_X7_19 dX7_readNumber_6 ?_
    refine g_aload_n B dX7_readNumber_9 0 rfl rfl ?_
    refine gt_X7_0 B m1 kf_X7_15 dX7_readNumber_10 ?_
    refine g_icmp_ge B 68 dX7_readNumber_13 (by decide) (fun q2 => ?_) (fun q2 => ?_)
    · have h := if_t h q2
      exact b_X7_readNumber_68 B N  _ h
    · have h := if_f h q2
      refine g_aload_n B dX7_readNumber_16 0 rfl rfl ?_
      refine gt_X7_4 B m1 kf_X7_9 dX7_readNumber_17 ?_
      refine g_aload_n B dX7_readNumber_20 0 rfl rfl ?_
      refine gt_X7_5 B m1 kf_X7_19 dX7_readNumber_21 ?_
      obtain ⟨m3, h⟩ := ck_e h
      obtain ⟨b4, h⟩ := ck_e h
      refine g_bald (n := 500) B m3 (fun _ => rfl) b4 dX7_readNumber_24 ?_
      obtain ⟨r5, S6, e7, h⟩ := ob_e h
      refine g_csi (rest := []) B (c_X7_isDigit hA N _ _ _ _ e7) mf_X7_isDigit km_X7_41 ⟨by decide, by decide⟩ ⟨rfl, rfl⟩ rfl rfl (Nat.le_of_ble_eq_true rfl) dX7_readNumber_25 ?_
      refine g_if_eq B 68 dX7_readNumber_28 (by decide) (fun q8 => ?_) (fun q8 => ?_)
      · have h := if_t h q8
        exact b_X7_readNumber_68 B N  _ h
      · have h := if_f h q8
        refine g_aload_n B dX7_readNumber_31 0 rfl rfl ?_
        refine g_aload_n B dX7_readNumber_32 0 rfl rfl ?_
        refine gt_X7_3 B m1 kf_X7_51 dX7_readNumber_33 ?_
        refine g_bipush (v := (10 : Int32)) B dX7_readNumber_36 (by decide) ?_
        refine g_imul B dX7_readNumber_38 ?_
        refine g_aload_n B dX7_readNumber_39 0 rfl rfl ?_
        refine gt_X7_4 B m1 kf_X7_9 dX7_readNumber_40 ?_
        refine g_aload_n B dX7_readNumber_43 0 rfl rfl ?_
        refine gt_X7_5 B m1 kf_X7_19 dX7_readNumber_44 ?_
        obtain ⟨b9, h⟩ := ck_e h
        refine g_bald (n := 500) B m3 (fun _ => rfl) b9 dX7_readNumber_47 ?_
        refine g_bipush (v := (48 : Int32)) B dX7_readNumber_48 (by decide) ?_
        refine g_isub B dX7_readNumber_50 ?_
        refine g_iadd B dX7_readNumber_51 ?_
        obtain ⟨S10, e11, h⟩ := lt_e h
        refine pt_X7_3 B m1 kf_X7_51 e11 dX7_readNumber_52 ?_
        refine g_aload_n B dX7_readNumber_55 0 rfl rfl ?_
        refine g_dup B dX7_readNumber_56 rfl ?_
        refine gt_X7_5 B m1 kf_X7_19 dX7_readNumber_57 ?_
        refine g_iconst (v := (1 : Int32)) B dX7_readNumber_60 (by decide) ?_
        refine g_iadd B dX7_readNumber_61 ?_
        obtain ⟨S12, e13, h⟩ := lt_e h
        refine pt_X7_5 B m1 kf_X7_19 e13 dX7_readNumber_62 ?_
        refine g_goto B 5 dX7_readNumber_65 (by decide) ?_
        exact ih  _ h
def f_X7_readNumber (cs : List (Nat × Nat)) (N : Nat)  (S : HS) : Option (Unit × HS) :=
  ck (mc cs 9 0) (
  lt_ (ui S 9 0 3 (0 : Int32)) (fun S2 =>
  f_X7_readNumber_5 cs N N  S2))
set_option maxHeartbeats 4000000 in
set_option maxRecDepth 100000 in
theorem c_X7_readNumber {l : Launch} {D : va_G} {cy : Nat → ClassId} {cs : List (Nat × Nat)} {ad : Nat → Nat → Nat} (hA : AdOk cs ad) (N : Nat)  (S : HS) (r : Unit) (Z : HS) (h : f_X7_readNumber cs N  S = some (r, Z)) : Ctr l yX7_readNumber cX7_readNumber 1 none rm_X7_readNumber D cy cs ad [.ref (ad 9 0)] S (none) Z := by
  unfold f_X7_readNumber at h
  refine Ctr.of hA RX7 (plainFor_of_name (by decide)) rfl [(0, .ref (ad 9 0))] rfl (Nat.le_of_ble_eq_true rfl) (fun p e s m below meth c B => ?_)
  refine g_aload_n B dX7_readNumber_0 0 rfl rfl ?_
  refine g_iconst (v := (0 : Int32)) B dX7_readNumber_1 (by decide) ?_
  obtain ⟨m1, h⟩ := ck_e h
  obtain ⟨S2, e3, h⟩ := lt_e h
  refine pt_X7_3 B m1 kf_X7_51 e3 dX7_readNumber_2 ?_
  exact b_X7_readNumber_5 B N N  _ h

def rm_X7_keyword : Room := { frames := 5, cells := 0, slots := 0, locals := 107 }
def f_X7_keyword (cs : List (Nat × Nat)) (N : Nat)  (S : HS) : Option (Int32 × HS) :=
  ck (mc cs 9 0) (
  ob (f_X7_isWord cs N 0 S) (fun r2 S3 =>
  if r2 = 0 then (
    ob (f_X7_isWord cs N 1 S3) (fun r6 S7 =>
    if r6 = 0 then (
      ob (f_X7_isWord cs N 2 S7) (fun r10 S11 =>
      if r10 = 0 then (
        ob (f_X7_isWord cs N 3 S11) (fun r14 S15 =>
        if r14 = 0 then (
          ob (f_X7_isWord cs N 4 S15) (fun r18 S19 =>
          if r18 = 0 then (
            ob (f_X7_isWord cs N 5 S19) (fun r22 S23 =>
            if r22 = 0 then (
              ob (f_X7_isWord cs N 6 S23) (fun r26 S27 =>
              if r26 = 0 then (
                ob (f_X7_isWord cs N 7 S27) (fun r30 S31 =>
                if r30 = 0 then (
                  some ((0 : Int32), S31))
                else (
                  some ((11 : Int32), S31))))
              else (
                some ((10 : Int32), S27))))
            else (
              some ((9 : Int32), S23))))
          else (
            some ((8 : Int32), S19))))
        else (
          some ((7 : Int32), S15))))
      else (
        some ((6 : Int32), S11))))
    else (
      some ((5 : Int32), S7))))
  else (
    some ((4 : Int32), S3))))
set_option maxHeartbeats 4000000 in
set_option maxRecDepth 100000 in
theorem c_X7_keyword {l : Launch} {D : va_G} {cy : Nat → ClassId} {cs : List (Nat × Nat)} {ad : Nat → Nat → Nat} (hA : AdOk cs ad) (N : Nat)  (S : HS) (r : Int32) (Z : HS) (h : f_X7_keyword cs N  S = some (r, Z)) : Ctr l yX7_keyword cX7_keyword 1 (some .int) rm_X7_keyword D cy cs ad [.ref (ad 9 0)] S (some (.int r)) Z := by
  unfold f_X7_keyword at h
  refine Ctr.of hA RX7 (plainFor_of_name (by decide)) rfl [(0, .ref (ad 9 0))] rfl (Nat.le_of_ble_eq_true rfl) (fun p e s m below meth c B => ?_)
  refine g_aload_n B dX7_keyword_0 0 rfl rfl ?_
  refine g_lds RX7 B (i := 0) (by decide) rfl dX7_keyword_1 ?_
  obtain ⟨m1, h⟩ := ck_e h
  obtain ⟨r2, S3, e4, h⟩ := ob_e h
  refine g_cvi (rest := []) B (c_X7_isWord hA N _ _ _ _ e4) mf_X7_isWord km_X7_56 ⟨by decide, by decide⟩ ⟨rfl, rfl⟩ m1 rfl rfl rfl rfl (Nat.le_of_ble_eq_true rfl) dX7_keyword_3 ?_
  refine g_if_eq B 11 dX7_keyword_6 (by decide) (fun q5 => ?_) (fun q5 => ?_)
  · have h := if_t h q5
    refine g_aload_n B dX7_keyword_11 0 rfl rfl ?_
    refine g_lds RX7 B (i := 1) (by decide) rfl dX7_keyword_12 ?_
    obtain ⟨r6, S7, e8, h⟩ := ob_e h
    refine g_cvi (rest := []) B (c_X7_isWord hA N _ _ _ _ e8) mf_X7_isWord km_X7_56 ⟨by decide, by decide⟩ ⟨rfl, rfl⟩ m1 rfl rfl rfl rfl (Nat.le_of_ble_eq_true rfl) dX7_keyword_14 ?_
    refine g_if_eq B 22 dX7_keyword_17 (by decide) (fun q9 => ?_) (fun q9 => ?_)
    · have h := if_t h q9
      refine g_aload_n B dX7_keyword_22 0 rfl rfl ?_
      refine g_lds RX7 B (i := 2) (by decide) rfl dX7_keyword_23 ?_
      obtain ⟨r10, S11, e12, h⟩ := ob_e h
      refine g_cvi (rest := []) B (c_X7_isWord hA N _ _ _ _ e12) mf_X7_isWord km_X7_56 ⟨by decide, by decide⟩ ⟨rfl, rfl⟩ m1 rfl rfl rfl rfl (Nat.le_of_ble_eq_true rfl) dX7_keyword_25 ?_
      refine g_if_eq B 34 dX7_keyword_28 (by decide) (fun q13 => ?_) (fun q13 => ?_)
      · have h := if_t h q13
        refine g_aload_n B dX7_keyword_34 0 rfl rfl ?_
        refine g_lds RX7 B (i := 3) (by decide) rfl dX7_keyword_35 ?_
        obtain ⟨r14, S15, e16, h⟩ := ob_e h
        refine g_cvi (rest := []) B (c_X7_isWord hA N _ _ _ _ e16) mf_X7_isWord km_X7_56 ⟨by decide, by decide⟩ ⟨rfl, rfl⟩ m1 rfl rfl rfl rfl (Nat.le_of_ble_eq_true rfl) dX7_keyword_37 ?_
        refine g_if_eq B 46 dX7_keyword_40 (by decide) (fun q17 => ?_) (fun q17 => ?_)
        · have h := if_t h q17
          refine g_aload_n B dX7_keyword_46 0 rfl rfl ?_
          refine g_lds RX7 B (i := 4) (by decide) rfl dX7_keyword_47 ?_
          obtain ⟨r18, S19, e20, h⟩ := ob_e h
          refine g_cvi (rest := []) B (c_X7_isWord hA N _ _ _ _ e20) mf_X7_isWord km_X7_56 ⟨by decide, by decide⟩ ⟨rfl, rfl⟩ m1 rfl rfl rfl rfl (Nat.le_of_ble_eq_true rfl) dX7_keyword_49 ?_
          refine g_if_eq B 58 dX7_keyword_52 (by decide) (fun q21 => ?_) (fun q21 => ?_)
          · have h := if_t h q21
            refine g_aload_n B dX7_keyword_58 0 rfl rfl ?_
            refine g_lds RX7 B (i := 5) (by decide) rfl dX7_keyword_59 ?_
            obtain ⟨r22, S23, e24, h⟩ := ob_e h
            refine g_cvi (rest := []) B (c_X7_isWord hA N _ _ _ _ e24) mf_X7_isWord km_X7_56 ⟨by decide, by decide⟩ ⟨rfl, rfl⟩ m1 rfl rfl rfl rfl (Nat.le_of_ble_eq_true rfl) dX7_keyword_61 ?_
            refine g_if_eq B 70 dX7_keyword_64 (by decide) (fun q25 => ?_) (fun q25 => ?_)
            · have h := if_t h q25
              refine g_aload_n B dX7_keyword_70 0 rfl rfl ?_
              refine g_lds RX7 B (i := 6) (by decide) rfl dX7_keyword_71 ?_
              obtain ⟨r26, S27, e28, h⟩ := ob_e h
              refine g_cvi (rest := []) B (c_X7_isWord hA N _ _ _ _ e28) mf_X7_isWord km_X7_56 ⟨by decide, by decide⟩ ⟨rfl, rfl⟩ m1 rfl rfl rfl rfl (Nat.le_of_ble_eq_true rfl) dX7_keyword_73 ?_
              refine g_if_eq B 82 dX7_keyword_76 (by decide) (fun q29 => ?_) (fun q29 => ?_)
              · have h := if_t h q29
                refine g_aload_n B dX7_keyword_82 0 rfl rfl ?_
                refine g_lds RX7 B (i := 7) (by decide) rfl dX7_keyword_83 ?_
                obtain ⟨r30, S31, e32, h⟩ := ob_e h
                refine g_cvi (rest := []) B (c_X7_isWord hA N _ _ _ _ e32) mf_X7_isWord km_X7_56 ⟨by decide, by decide⟩ ⟨rfl, rfl⟩ m1 rfl rfl rfl rfl (Nat.le_of_ble_eq_true rfl) dX7_keyword_85 ?_
                refine g_if_eq B 96 dX7_keyword_88 (by decide) (fun q33 => ?_) (fun q33 => ?_)
                · have h := if_t h q33
                  refine g_iconst (v := (0 : Int32)) B dX7_keyword_96 (by decide) ?_
                  obtain ⟨rfl, rfl⟩ := some_e h
                  exact g_iret B dX7_keyword_97
                · have h := if_f h q33
                  refine g_bipush (v := (11 : Int32)) B dX7_keyword_91 (by decide) ?_
                  refine g_goto B 97 dX7_keyword_93 (by decide) ?_
                  obtain ⟨rfl, rfl⟩ := some_e h
                  exact g_iret B dX7_keyword_97
              · have h := if_f h q29
                refine g_bipush (v := (10 : Int32)) B dX7_keyword_79 (by decide) ?_
                obtain ⟨rfl, rfl⟩ := some_e h
                exact g_iret B dX7_keyword_81
            · have h := if_f h q25
              refine g_bipush (v := (9 : Int32)) B dX7_keyword_67 (by decide) ?_
              obtain ⟨rfl, rfl⟩ := some_e h
              exact g_iret B dX7_keyword_69
          · have h := if_f h q21
            refine g_bipush (v := (8 : Int32)) B dX7_keyword_55 (by decide) ?_
            obtain ⟨rfl, rfl⟩ := some_e h
            exact g_iret B dX7_keyword_57
        · have h := if_f h q17
          refine g_bipush (v := (7 : Int32)) B dX7_keyword_43 (by decide) ?_
          obtain ⟨rfl, rfl⟩ := some_e h
          exact g_iret B dX7_keyword_45
      · have h := if_f h q13
        refine g_bipush (v := (6 : Int32)) B dX7_keyword_31 (by decide) ?_
        obtain ⟨rfl, rfl⟩ := some_e h
        exact g_iret B dX7_keyword_33
    · have h := if_f h q9
      refine g_iconst (v := (5 : Int32)) B dX7_keyword_20 (by decide) ?_
      obtain ⟨rfl, rfl⟩ := some_e h
      exact g_iret B dX7_keyword_21
  · have h := if_f h q5
    refine g_iconst (v := (4 : Int32)) B dX7_keyword_9 (by decide) ?_
    obtain ⟨rfl, rfl⟩ := some_e h
    exact g_iret B dX7_keyword_10

def rm_X7_readWord : Room := { frames := 6, cells := 0, slots := 0, locals := 127 }
def f_X7_readWord_39 (cs : List (Nat × Nat)) (N : Nat)   (S : HS) : Option (Unit × HS) :=
  ck (mc cs 9 0) (
  ob (f_X7_keyword cs N  S) (fun r2 S3 =>
  lt_ (ui S3 9 0 1 r2) (fun S5 =>
  some ((), S5))))
set_option maxHeartbeats 4000000 in
set_option maxRecDepth 100000 in
theorem b_X7_readWord_39 {p : Program} {l : Launch} {e : Env} {s : State} {m : MethodId} {args : Array Value} {below : List Frame} {meth : Method} {c : Code} {D : va_G} {cy : Nat → ClassId} {cs : List (Nat × Nat)} {ad : Nat → Nat → Nat} {r : Unit} {Z : HS} (B : Bd p s m args meth c D cy cs ad cX7_readWord 1 RX7 none) (N : Nat)   (S : HS) (h : f_X7_readWord_39 cs N  S = some (r, Z)) : GW p l e rm_X7_readWord s m args below meth c (QM below args s D cy cs ad (none) Z) D cy cs ad 1 39 [(0, .ref (ad 9 0))] [] S := by
  have hA := B.2.2.2.2.2.2.1
  unfold f_X7_readWord_39 at h
  refine g_aload_n B dX7_readWord_39 0 rfl rfl ?_
  refine g_aload_n B dX7_readWord_40 0 rfl rfl ?_
  obtain ⟨m1, h⟩ := ck_e h
  obtain ⟨r2, S3, e4, h⟩ := ob_e h
  refine g_cvi (rest := [.ref (ad 9 0)]) B (c_X7_keyword hA N  _ _ _ e4) mf_X7_keyword km_X7_47 ⟨by decide, by decide⟩ ⟨rfl, rfl⟩ m1 rfl rfl rfl rfl (Nat.le_of_ble_eq_true rfl) dX7_readWord_41 ?_
  obtain ⟨S5, e6, h⟩ := lt_e h
  refine pt_X7_1 B m1 kf_X7_31 e6 dX7_readWord_44 ?_
  obtain ⟨-, rfl⟩ := some_e h
  exact g_vret B dX7_readWord_47
def f_X7_readWord_0 (cs : List (Nat × Nat)) (N : Nat)  : Nat → HS → Option (Unit × HS)
  | 0, _ => none
  | n + 1, S =>
    ck (mc cs 9 0) (
    if (gi S 9 0 0) ≤ (gi S 9 0 5) then (
      f_X7_readWord_39 cs N  S)
    else (
      ck (mc cs 10 0) (
      ck (inb (gi S 9 0 5) 500) (
      ob (f_X7_isLetter cs N (gi S 10 0 (gi S 9 0 5).toNatClampNeg) S) (fun r5 S6 =>
      if r5 = 0 then (
        f_X7_readWord_39 cs N  S6)
      else (
        lt_ (ui S6 9 0 5 ((gi S6 9 0 5) + (1 : Int32))) (fun S9 =>
        f_X7_readWord_0 cs N n  S9)))))))
set_option maxHeartbeats 4000000 in
set_option maxRecDepth 100000 in
theorem b_X7_readWord_0 {p : Program} {l : Launch} {e : Env} {s : State} {m : MethodId} {args : Array Value} {below : List Frame} {meth : Method} {c : Code} {D : va_G} {cy : Nat → ClassId} {cs : List (Nat × Nat)} {ad : Nat → Nat → Nat} {r : Unit} {Z : HS} (B : Bd p s m args meth c D cy cs ad cX7_readWord 1 RX7 none) (N : Nat)  : ∀ (n : Nat)  (S : HS), f_X7_readWord_0 cs N n  S = some (r, Z) → GW p l e rm_X7_readWord s m args below meth c (QM below args s D cy cs ad (none) Z) D cy cs ad 1 0 [(0, .ref (ad 9 0))] [] S := by
  have hA := B.2.2.2.2.2.2.1
  intro n
  induction n with
  | zero => intro  S h; cases h
  | succ n ih =>
    intro  S h
    rw [f_X7_readWord_0] at h
    refine g_aload_n B dX7_readWord_0 0 rfl rfl ?_
    obtain ⟨m1, h⟩ := ck_e h
    refine gt_X7_5 B m1 kf_X7_19 dX7_readWord_1 ?_
    refine g_aload_n B dX7_readWord_4 0 rfl rfl ?_
    refine gt_X7_0 B m1 kf_X7_15 dX7_readWord_5 ?_
    refine g_icmp_ge B 39 dX7_readWord_8 (by decide) (fun q2 => ?_) (fun q2 => ?_)
    · have h := if_t h q2
      exact b_X7_readWord_39 B N  _ h
    · have h := if_f h q2
      refine g_aload_n B dX7_readWord_11 0 rfl rfl ?_
      refine gt_X7_4 B m1 kf_X7_9 dX7_readWord_12 ?_
      refine g_aload_n B dX7_readWord_15 0 rfl rfl ?_
      refine gt_X7_5 B m1 kf_X7_19 dX7_readWord_16 ?_
      obtain ⟨m3, h⟩ := ck_e h
      obtain ⟨b4, h⟩ := ck_e h
      refine g_bald (n := 500) B m3 (fun _ => rfl) b4 dX7_readWord_19 ?_
      obtain ⟨r5, S6, e7, h⟩ := ob_e h
      refine g_csi (rest := []) B (c_X7_isLetter hA N _ _ _ _ e7) mf_X7_isLetter km_X7_34 ⟨by decide, by decide⟩ ⟨rfl, rfl⟩ rfl rfl (Nat.le_of_ble_eq_true rfl) dX7_readWord_20 ?_
      refine g_if_eq B 39 dX7_readWord_23 (by decide) (fun q8 => ?_) (fun q8 => ?_)
      · have h := if_t h q8
        exact b_X7_readWord_39 B N  _ h
      · have h := if_f h q8
        refine g_aload_n B dX7_readWord_26 0 rfl rfl ?_
        refine g_dup B dX7_readWord_27 rfl ?_
        refine gt_X7_5 B m1 kf_X7_19 dX7_readWord_28 ?_
        refine g_iconst (v := (1 : Int32)) B dX7_readWord_31 (by decide) ?_
        refine g_iadd B dX7_readWord_32 ?_
        obtain ⟨S9, e10, h⟩ := lt_e h
        refine pt_X7_5 B m1 kf_X7_19 e10 dX7_readWord_33 ?_
        refine g_goto B 0 dX7_readWord_36 (by decide) ?_
        exact ih  _ h
def f_X7_readWord (cs : List (Nat × Nat)) (N : Nat)  (S : HS) : Option (Unit × HS) :=
  f_X7_readWord_0 cs N N  S
set_option maxHeartbeats 4000000 in
set_option maxRecDepth 100000 in
theorem c_X7_readWord {l : Launch} {D : va_G} {cy : Nat → ClassId} {cs : List (Nat × Nat)} {ad : Nat → Nat → Nat} (hA : AdOk cs ad) (N : Nat)  (S : HS) (r : Unit) (Z : HS) (h : f_X7_readWord cs N  S = some (r, Z)) : Ctr l yX7_readWord cX7_readWord 1 none rm_X7_readWord D cy cs ad [.ref (ad 9 0)] S (none) Z := by
  unfold f_X7_readWord at h
  refine Ctr.of hA RX7 (plainFor_of_name (by decide)) rfl [(0, .ref (ad 9 0))] rfl (Nat.le_of_ble_eq_true rfl) (fun p e s m below meth c B => ?_)
  exact b_X7_readWord_0 B N N  _ h

def rm_X7_readToken : Room := { frames := 7, cells := 0, slots := 0, locals := 147 }
def f_X7_readToken (cs : List (Nat × Nat)) (N : Nat)  (S : HS) : Option (Unit × HS) :=
  ck (mc cs 9 0) (
  ob (f_X7_skipBlanks cs N  S) (fun r2 S3 =>
  lt_ (ui S3 9 0 2 (gi S3 9 0 5)) (fun S5 =>
  if (gi S5 9 0 5) < (gi S5 9 0 0) then (
    ck (mc cs 10 0) (
    ck (inb (gi S5 9 0 5) 500) (
    ob (f_X7_isLetter cs N (gi S5 10 0 (gi S5 9 0 5).toNatClampNeg) S5) (fun r10 S11 =>
    if r10 = 0 then (
      ck (inb (gi S11 9 0 5) 500) (
      ob (f_X7_isDigit cs N (gi S11 10 0 (gi S11 9 0 5).toNatClampNeg) S11) (fun r15 S16 =>
      if r15 = 0 then (
        ck (inb (gi S16 9 0 5) 500) (
        if (gi S16 10 0 (gi S16 9 0 5).toNatClampNeg) = (59 : Int32) then (
          lt_ (ui S16 9 0 1 (2 : Int32)) (fun S25 =>
          lt_ (ui S25 9 0 5 ((gi S25 9 0 5) + (1 : Int32))) (fun S27 =>
          some ((), S27))))
        else (
          lt_ (ui S16 9 0 1 (0 : Int32)) (fun S21 =>
          lt_ (ui S21 9 0 5 ((gi S21 9 0 5) + (1 : Int32))) (fun S23 =>
          some ((), S23))))))
      else (
        ob (f_X7_readNumber cs N  S16) (fun r29 S30 =>
        some ((), S30))))))
    else (
      ob (f_X7_readWord cs N  S11) (fun r32 S33 =>
      some ((), S33)))))))
  else (
    lt_ (ui S5 9 0 1 (1 : Int32)) (fun S35 =>
    some ((), S35))))))
set_option maxHeartbeats 4000000 in
set_option maxRecDepth 100000 in
theorem c_X7_readToken {l : Launch} {D : va_G} {cy : Nat → ClassId} {cs : List (Nat × Nat)} {ad : Nat → Nat → Nat} (hA : AdOk cs ad) (N : Nat)  (S : HS) (r : Unit) (Z : HS) (h : f_X7_readToken cs N  S = some (r, Z)) : Ctr l yX7_readToken cX7_readToken 1 none rm_X7_readToken D cy cs ad [.ref (ad 9 0)] S (none) Z := by
  unfold f_X7_readToken at h
  refine Ctr.of hA RX7 (plainFor_of_name (by decide)) rfl [(0, .ref (ad 9 0))] rfl (Nat.le_of_ble_eq_true rfl) (fun p e s m below meth c B => ?_)
  refine g_aload_n B dX7_readToken_0 0 rfl rfl ?_
  obtain ⟨m1, h⟩ := ck_e h
  obtain ⟨r2, S3, e4, h⟩ := ob_e h
  refine g_cvv (rest := []) B (c_X7_skipBlanks hA N  _ _ _ e4) mf_X7_skipBlanks km_X7_25 ⟨by decide, by decide⟩ ⟨rfl, rfl⟩ m1 rfl rfl rfl rfl (Nat.le_of_ble_eq_true rfl) dX7_readToken_1 ?_
  refine g_aload_n B dX7_readToken_4 0 rfl rfl ?_
  refine g_aload_n B dX7_readToken_5 0 rfl rfl ?_
  refine gt_X7_5 B m1 kf_X7_19 dX7_readToken_6 ?_
  obtain ⟨S5, e6, h⟩ := lt_e h
  refine pt_X7_2 B m1 kf_X7_28 e6 dX7_readToken_9 ?_
  refine g_aload_n B dX7_readToken_12 0 rfl rfl ?_
  refine gt_X7_5 B m1 kf_X7_19 dX7_readToken_13 ?_
  refine g_aload_n B dX7_readToken_16 0 rfl rfl ?_
  refine gt_X7_0 B m1 kf_X7_15 dX7_readToken_17 ?_
  refine g_icmp_lt B 31 dX7_readToken_20 (by decide) (fun q7 => ?_) (fun q7 => ?_)
  · have h := if_t h q7
    refine g_aload_n B dX7_readToken_31 0 rfl rfl ?_
    refine gt_X7_4 B m1 kf_X7_9 dX7_readToken_32 ?_
    refine g_aload_n B dX7_readToken_35 0 rfl rfl ?_
    refine gt_X7_5 B m1 kf_X7_19 dX7_readToken_36 ?_
    obtain ⟨m8, h⟩ := ck_e h
    obtain ⟨b9, h⟩ := ck_e h
    refine g_bald (n := 500) B m8 (fun _ => rfl) b9 dX7_readToken_39 ?_
    obtain ⟨r10, S11, e12, h⟩ := ob_e h
    refine g_csi (rest := []) B (c_X7_isLetter hA N _ _ _ _ e12) mf_X7_isLetter km_X7_34 ⟨by decide, by decide⟩ ⟨rfl, rfl⟩ rfl rfl (Nat.le_of_ble_eq_true rfl) dX7_readToken_40 ?_
    refine g_if_eq B 53 dX7_readToken_43 (by decide) (fun q13 => ?_) (fun q13 => ?_)
    · have h := if_t h q13
      refine g_aload_n B dX7_readToken_53 0 rfl rfl ?_
      refine gt_X7_4 B m1 kf_X7_9 dX7_readToken_54 ?_
      refine g_aload_n B dX7_readToken_57 0 rfl rfl ?_
      refine gt_X7_5 B m1 kf_X7_19 dX7_readToken_58 ?_
      obtain ⟨b14, h⟩ := ck_e h
      refine g_bald (n := 500) B m8 (fun _ => rfl) b14 dX7_readToken_61 ?_
      obtain ⟨r15, S16, e17, h⟩ := ob_e h
      refine g_csi (rest := []) B (c_X7_isDigit hA N _ _ _ _ e17) mf_X7_isDigit km_X7_41 ⟨by decide, by decide⟩ ⟨rfl, rfl⟩ rfl rfl (Nat.le_of_ble_eq_true rfl) dX7_readToken_62 ?_
      refine g_if_eq B 75 dX7_readToken_65 (by decide) (fun q18 => ?_) (fun q18 => ?_)
      · have h := if_t h q18
        refine g_aload_n B dX7_readToken_75 0 rfl rfl ?_
        refine g_aload_n B dX7_readToken_76 0 rfl rfl ?_
        refine gt_X7_4 B m1 kf_X7_9 dX7_readToken_77 ?_
        refine g_aload_n B dX7_readToken_80 0 rfl rfl ?_
        refine gt_X7_5 B m1 kf_X7_19 dX7_readToken_81 ?_
        obtain ⟨b19, h⟩ := ck_e h
        refine g_bald (n := 500) B m8 (fun _ => rfl) b19 dX7_readToken_84 ?_
        refine g_bipush (v := (59 : Int32)) B dX7_readToken_85 (by decide) ?_
        refine g_icmp_ne B 94 dX7_readToken_87 (by decide) (fun q20 => ?_) (fun q20 => ?_)
        · have h := if_f h q20
          refine g_iconst (v := (0 : Int32)) B dX7_readToken_94 (by decide) ?_
          obtain ⟨S21, e22, h⟩ := lt_e h
          refine pt_X7_1 B m1 kf_X7_31 e22 dX7_readToken_95 ?_
          refine g_aload_n B dX7_readToken_98 0 rfl rfl ?_
          refine g_dup B dX7_readToken_99 rfl ?_
          refine gt_X7_5 B m1 kf_X7_19 dX7_readToken_100 ?_
          refine g_iconst (v := (1 : Int32)) B dX7_readToken_103 (by decide) ?_
          refine g_iadd B dX7_readToken_104 ?_
          obtain ⟨S23, e24, h⟩ := lt_e h
          refine pt_X7_5 B m1 kf_X7_19 e24 dX7_readToken_105 ?_
          obtain ⟨-, rfl⟩ := some_e h
          exact g_vret B dX7_readToken_108
        · have h := if_t h q20
          refine g_iconst (v := (2 : Int32)) B dX7_readToken_90 (by decide) ?_
          refine g_goto B 95 dX7_readToken_91 (by decide) ?_
          obtain ⟨S25, e26, h⟩ := lt_e h
          refine pt_X7_1 B m1 kf_X7_31 e26 dX7_readToken_95 ?_
          refine g_aload_n B dX7_readToken_98 0 rfl rfl ?_
          refine g_dup B dX7_readToken_99 rfl ?_
          refine gt_X7_5 B m1 kf_X7_19 dX7_readToken_100 ?_
          refine g_iconst (v := (1 : Int32)) B dX7_readToken_103 (by decide) ?_
          refine g_iadd B dX7_readToken_104 ?_
          obtain ⟨S27, e28, h⟩ := lt_e h
          refine pt_X7_5 B m1 kf_X7_19 e28 dX7_readToken_105 ?_
          obtain ⟨-, rfl⟩ := some_e h
          exact g_vret B dX7_readToken_108
      · have h := if_f h q18
        refine g_aload_n B dX7_readToken_68 0 rfl rfl ?_
        obtain ⟨r29, S30, e31, h⟩ := ob_e h
        refine g_cvv (rest := []) B (c_X7_readNumber hA N  _ _ _ e31) mf_X7_readNumber km_X7_44 ⟨by decide, by decide⟩ ⟨rfl, rfl⟩ m1 rfl rfl rfl rfl (Nat.le_of_ble_eq_true rfl) dX7_readToken_69 ?_
        refine g_goto B 108 dX7_readToken_72 (by decide) ?_
        obtain ⟨-, rfl⟩ := some_e h
        exact g_vret B dX7_readToken_108
    · have h := if_f h q13
      refine g_aload_n B dX7_readToken_46 0 rfl rfl ?_
      obtain ⟨r32, S33, e34, h⟩ := ob_e h
      refine g_cvv (rest := []) B (c_X7_readWord hA N  _ _ _ e34) mf_X7_readWord km_X7_38 ⟨by decide, by decide⟩ ⟨rfl, rfl⟩ m1 rfl rfl rfl rfl (Nat.le_of_ble_eq_true rfl) dX7_readToken_47 ?_
      refine g_goto B 108 dX7_readToken_50 (by decide) ?_
      obtain ⟨-, rfl⟩ := some_e h
      exact g_vret B dX7_readToken_108
  · have h := if_f h q7
    refine g_aload_n B dX7_readToken_23 0 rfl rfl ?_
    refine g_iconst (v := (1 : Int32)) B dX7_readToken_24 (by decide) ?_
    obtain ⟨S35, e36, h⟩ := lt_e h
    refine pt_X7_1 B m1 kf_X7_31 e36 dX7_readToken_25 ?_
    refine g_goto B 108 dX7_readToken_28 (by decide) ?_
    obtain ⟨-, rfl⟩ := some_e h
    exact g_vret B dX7_readToken_108

def rm_X1_readParts : Room := { frames := 8, cells := 0, slots := 0, locals := 167 }
def f_X1_readParts_111 (cs : List (Nat × Nat)) (N : Nat) (K4 : Nat → Int32 → Int32 → HS → Option (Int32 × HS)) (k1 : Nat) (v2 : Int32) (v3 : Int32) (S : HS) : Option (Int32 × HS) :=
  ck (mc cs 8 0) (
  ck (mc cs 9 0) (
  ob (f_X7_readToken cs N  S) (fun r3 S4 =>
  lt_ (v3 + (1 : Int32)) (fun x6 =>
  K4 k1 v2 x6 S4))))
set_option maxHeartbeats 4000000 in
set_option maxRecDepth 100000 in
theorem b_X1_readParts_111 {p : Program} {l : Launch} {e : Env} {s : State} {m : MethodId} {args : Array Value} {below : List Frame} {meth : Method} {c : Code} {D : va_G} {cy : Nat → ClassId} {cs : List (Nat × Nat)} {ad : Nat → Nat → Nat} {r : Int32} {Z : HS} (B : Bd p s m args meth c D cy cs ad cX1_readParts 5 RX1 (some .boolean)) (N : Nat) (K4 : Nat → Int32 → Int32 → HS → Option (Int32 × HS)) (hK4 : ∀ (k1 : Nat) (v2 : Int32) (v3 : Int32) (S : HS), K4 k1 v2 v3 S = some (r, Z) → GW p l e rm_X1_readParts s m args below meth c (QM below args s D cy cs ad (some (.int r)) Z) D cy cs ad 5 4 [(0, .ref (ad 8 0)), (1, .ref (ad 40 k1)), (2, .int v2), (3, .int v3)] [] S) (k1 : Nat) (v2 : Int32) (v3 : Int32) (S : HS) (h : f_X1_readParts_111 cs N K4 k1 v2 v3 S = some (r, Z)) : GW p l e rm_X1_readParts s m args below meth c (QM below args s D cy cs ad (some (.int r)) Z) D cy cs ad 5 111 [(0, .ref (ad 8 0)), (1, .ref (ad 40 k1)), (2, .int v2), (3, .int v3)] [] S := by
  have hA := B.2.2.2.2.2.2.1
  unfold f_X1_readParts_111 at h
  refine g_aload_n B dX1_readParts_111 0 rfl rfl ?_
  obtain ⟨m1, h⟩ := ck_e h
  refine gt_X1_0 B m1 kf_X1_12 dX1_readParts_112 ?_
  obtain ⟨m2, h⟩ := ck_e h
  obtain ⟨r3, S4, e5, h⟩ := ob_e h
  refine g_cvv (rest := []) B (c_X7_readToken hA N  _ _ _ e5) mf_X7_readToken km_X1_51 ⟨by decide, by decide⟩ ⟨rfl, rfl⟩ m2 rfl rfl rfl rfl (Nat.le_of_ble_eq_true rfl) dX1_readParts_115 ?_
  obtain ⟨x6, e7, h⟩ := lt_e h
  refine g_iinc (v := x6) (lv' := [(3, .int x6), (0, .ref (ad 8 0)), (1, .ref (ad 40 k1)), (2, .int v2)]) B dX1_readParts_118 (k := 3) rfl (by rw [e7]; rfl) (by decide) rfl ?_
  refine g_goto B 4 dX1_readParts_121 (by decide) ?_
  refine g_sub [1, 2, 3, 0] rfl ?_
  exact hK4 _ _ _ _ h
def f_X1_readParts_44 (cs : List (Nat × Nat)) (N : Nat) (K4 : Nat → Int32 → Int32 → HS → Option (Int32 × HS)) (k1 : Nat) (v2 : Int32) (v3 : Int32) (v4 : Int32) (t0 : Int32) (t1 : Int32) (S : HS) : Option (Int32 × HS) :=
  if t1 = t0 then (
    if v4 = 0 then (
      f_X1_readParts_111 cs N K4 k1 v2 v3 S)
    else (
      if (3 : Int32) ≤ v2 then (
        f_X1_readParts_111 cs N K4 k1 v2 v3 S)
      else (
        ck (mc cs 8 0) (
        ck (mc cs 9 0) (
        ck (decide (k1 < 5)) (
        ck (inb v3 (sLn k1)) (
        ob (f_X1_leastOf cs N (sVl k1 v3.toNatClampNeg) S) (fun r8 S9 =>
        ck (inb v3 (sLn k1)) (
        ob (f_X1_mostOf cs N (sVl k1 v3.toNatClampNeg) S9) (fun r12 S13 =>
        ob (f_X8_isWithin cs N (gi S 9 0 3) r8 r12 S13) (fun r15 S16 =>
        if r15 = 0 then (
          ob (f_X1_stopAt cs N (2 : Int32) S16) (fun r25 S26 =>
          ck (b01 r25) (
          some (r25, S26))))
        else (
          ck (mc cs 11 0) (
          ck (inb v2 3) (
          lt_ (ui S16 11 0 v2.toNatClampNeg (gi S16 9 0 3)) (fun S21 =>
          lt_ (v2 + (1 : Int32)) (fun x23 =>
          f_X1_readParts_111 cs N K4 k1 x23 v3 S21))))))))))))))))
  else (
    ck (mc cs 8 0) (
    ob (f_X1_stopAt cs N (1 : Int32) S) (fun r30 S31 =>
    ck (b01 r30) (
    some (r30, S31)))))
set_option maxHeartbeats 4000000 in
set_option maxRecDepth 100000 in
theorem b_X1_readParts_44 {p : Program} {l : Launch} {e : Env} {s : State} {m : MethodId} {args : Array Value} {below : List Frame} {meth : Method} {c : Code} {D : va_G} {cy : Nat → ClassId} {cs : List (Nat × Nat)} {ad : Nat → Nat → Nat} {r : Int32} {Z : HS} (B : Bd p s m args meth c D cy cs ad cX1_readParts 5 RX1 (some .boolean)) (N : Nat) (K4 : Nat → Int32 → Int32 → HS → Option (Int32 × HS)) (hK4 : ∀ (k1 : Nat) (v2 : Int32) (v3 : Int32) (S : HS), K4 k1 v2 v3 S = some (r, Z) → GW p l e rm_X1_readParts s m args below meth c (QM below args s D cy cs ad (some (.int r)) Z) D cy cs ad 5 4 [(0, .ref (ad 8 0)), (1, .ref (ad 40 k1)), (2, .int v2), (3, .int v3)] [] S) (k1 : Nat) (v2 : Int32) (v3 : Int32) (v4 : Int32) (t0 : Int32) (t1 : Int32) (S : HS) (h : f_X1_readParts_44 cs N K4 k1 v2 v3 v4 t0 t1 S = some (r, Z)) : GW p l e rm_X1_readParts s m args below meth c (QM below args s D cy cs ad (some (.int r)) Z) D cy cs ad 5 44 [(0, .ref (ad 8 0)), (1, .ref (ad 40 k1)), (2, .int v2), (3, .int v3), (4, .int v4)] [.int t0, .int t1] S := by
  have hA := B.2.2.2.2.2.2.1
  unfold f_X1_readParts_44 at h
  refine g_icmp_eq B 53 dX1_readParts_44 (by decide) (fun q1 => ?_) (fun q1 => ?_)
  · have h := if_t h q1
    refine g_iload B dX1_readParts_53 4 rfl ?_
    refine g_if_eq B 111 dX1_readParts_55 (by decide) (fun q2 => ?_) (fun q2 => ?_)
    · have h := if_t h q2
      refine g_sub [0, 1, 2, 3] rfl ?_
      exact b_X1_readParts_111 B N _ hK4 _ _ _ _ h
    · have h := if_f h q2
      refine g_iload_n B dX1_readParts_58 2 rfl rfl ?_
      refine g_iconst (v := (3 : Int32)) B dX1_readParts_59 (by decide) ?_
      refine g_icmp_ge B 111 dX1_readParts_60 (by decide) (fun q3 => ?_) (fun q3 => ?_)
      · have h := if_t h q3
        refine g_sub [0, 1, 2, 3] rfl ?_
        exact b_X1_readParts_111 B N _ hK4 _ _ _ _ h
      · have h := if_f h q3
        refine g_aload_n B dX1_readParts_63 0 rfl rfl ?_
        obtain ⟨m4, h⟩ := ck_e h
        refine gt_X1_0 B m4 kf_X1_12 dX1_readParts_64 ?_
        obtain ⟨m5, h⟩ := ck_e h
        refine gt_X7_3 B m5 kf_X1_78 dX1_readParts_67 ?_
        refine g_aload_n B dX1_readParts_70 0 rfl rfl ?_
        refine g_aload_n B dX1_readParts_71 1 rfl rfl ?_
        refine g_iload_n B dX1_readParts_72 3 rfl rfl ?_
        obtain ⟨m6, h⟩ := ck_e h
        have m6 := of_decide_eq_true m6
        obtain ⟨b7, h⟩ := ck_e h
        refine g_sld B m6 b7 dX1_readParts_73 ?_
        obtain ⟨r8, S9, e10, h⟩ := ob_e h
        refine g_cvi (rest := [.int (gi S 9 0 3)]) B (c_X1_leastOf hA N _ _ _ _ e10) mf_X1_leastOf km_X1_81 ⟨by decide, by decide⟩ ⟨rfl, rfl⟩ m4 rfl rfl rfl rfl (Nat.le_of_ble_eq_true rfl) dX1_readParts_74 ?_
        refine g_aload_n B dX1_readParts_77 1 rfl rfl ?_
        refine g_iload_n B dX1_readParts_78 3 rfl rfl ?_
        obtain ⟨b11, h⟩ := ck_e h
        refine g_sld B m6 b11 dX1_readParts_79 ?_
        obtain ⟨r12, S13, e14, h⟩ := ob_e h
        refine g_csi (rest := [.int r8, .int (gi S 9 0 3)]) B (c_X1_mostOf hA N _ _ _ _ e14) mf_X1_mostOf km_X1_85 ⟨by decide, by decide⟩ ⟨rfl, rfl⟩ rfl rfl (Nat.le_of_ble_eq_true rfl) dX1_readParts_80 ?_
        obtain ⟨r15, S16, e17, h⟩ := ob_e h
        refine g_csni (rest := []) B (c_X8_isWithin hA N _ _ _ _ _ _ e17) mf_X8_isWithin (by decide +kernel) ⟨by decide, by decide⟩ ⟨rfl, rfl⟩ rfl rfl (Nat.le_of_ble_eq_true rfl) dX1_readParts_83 ?_
        refine g_if_ne B 95 dX1_readParts_86 (by decide) (fun q18 => ?_) (fun q18 => ?_)
        · have h := if_f h q18
          refine g_aload_n B dX1_readParts_95 0 rfl rfl ?_
          refine gt_X1_4 B m4 kf_X1_22 dX1_readParts_96 ?_
          refine g_iload_n B dX1_readParts_99 2 rfl rfl ?_
          refine g_aload_n B dX1_readParts_100 0 rfl rfl ?_
          refine gt_X1_0 B m4 kf_X1_12 dX1_readParts_101 ?_
          refine gt_X7_3 B m5 kf_X1_78 dX1_readParts_104 ?_
          obtain ⟨m19, h⟩ := ck_e h
          obtain ⟨b20, h⟩ := ck_e h
          obtain ⟨S21, e22, h⟩ := lt_e h
          refine g_iast (n := 3) B m19 b20 (fun _ => rfl) e22 dX1_readParts_107 ?_
          obtain ⟨x23, e24, h⟩ := lt_e h
          refine g_iinc (v := x23) (lv' := [(2, .int x23), (0, .ref (ad 8 0)), (1, .ref (ad 40 k1)), (3, .int v3), (4, .int v4)]) B dX1_readParts_108 (k := 2) rfl (by rw [e24]; rfl) (by decide) rfl ?_
          refine g_sub [1, 2, 0, 3] rfl ?_
          exact b_X1_readParts_111 B N _ hK4 _ _ _ _ h
        · have h := if_t h q18
          refine g_aload_n B dX1_readParts_89 0 rfl rfl ?_
          refine g_iconst (v := (2 : Int32)) B dX1_readParts_90 (by decide) ?_
          obtain ⟨r25, S26, e27, h⟩ := ob_e h
          refine g_cvi (rest := []) B (c_X1_stopAt hA N _ _ _ _ e27) mf_X1_stopAt km_X1_47 ⟨by decide, by decide⟩ ⟨rfl, rfl⟩ m4 rfl rfl rfl rfl (Nat.le_of_ble_eq_true rfl) dX1_readParts_91 ?_
          obtain ⟨b28, h⟩ := ck_e h
          obtain ⟨rfl, rfl⟩ := some_e h
          exact g_zret B b28 dX1_readParts_94
  · have h := if_f h q1
    refine g_aload_n B dX1_readParts_47 0 rfl rfl ?_
    refine g_iconst (v := (1 : Int32)) B dX1_readParts_48 (by decide) ?_
    obtain ⟨m29, h⟩ := ck_e h
    obtain ⟨r30, S31, e32, h⟩ := ob_e h
    refine g_cvi (rest := []) B (c_X1_stopAt hA N _ _ _ _ e32) mf_X1_stopAt km_X1_47 ⟨by decide, by decide⟩ ⟨rfl, rfl⟩ m29 rfl rfl rfl rfl (Nat.le_of_ble_eq_true rfl) dX1_readParts_49 ?_
    obtain ⟨b33, h⟩ := ck_e h
    obtain ⟨rfl, rfl⟩ := some_e h
    exact g_zret B b33 dX1_readParts_52
def f_X1_readParts_23 (cs : List (Nat × Nat)) (N : Nat) (K4 : Nat → Int32 → Int32 → HS → Option (Int32 × HS)) (k1 : Nat) (v2 : Int32) (v3 : Int32) (t0 : Int32) (S : HS) : Option (Int32 × HS) :=
  ck (mc cs 8 0) (
  ck (mc cs 9 0) (
  if t0 = 0 then (
    ck (decide (k1 < 5)) (
    ck (inb v3 (sLn k1)) (
    f_X1_readParts_44 cs N K4 k1 v2 v3 t0 (sVl k1 v3.toNatClampNeg) (gi S 9 0 1) S)))
  else (
    f_X1_readParts_44 cs N K4 k1 v2 v3 t0 (3 : Int32) (gi S 9 0 1) S)))
set_option maxHeartbeats 4000000 in
set_option maxRecDepth 100000 in
theorem b_X1_readParts_23 {p : Program} {l : Launch} {e : Env} {s : State} {m : MethodId} {args : Array Value} {below : List Frame} {meth : Method} {c : Code} {D : va_G} {cy : Nat → ClassId} {cs : List (Nat × Nat)} {ad : Nat → Nat → Nat} {r : Int32} {Z : HS} (B : Bd p s m args meth c D cy cs ad cX1_readParts 5 RX1 (some .boolean)) (N : Nat) (K4 : Nat → Int32 → Int32 → HS → Option (Int32 × HS)) (hK4 : ∀ (k1 : Nat) (v2 : Int32) (v3 : Int32) (S : HS), K4 k1 v2 v3 S = some (r, Z) → GW p l e rm_X1_readParts s m args below meth c (QM below args s D cy cs ad (some (.int r)) Z) D cy cs ad 5 4 [(0, .ref (ad 8 0)), (1, .ref (ad 40 k1)), (2, .int v2), (3, .int v3)] [] S) (k1 : Nat) (v2 : Int32) (v3 : Int32) (t0 : Int32) (S : HS) (h : f_X1_readParts_23 cs N K4 k1 v2 v3 t0 S = some (r, Z)) : GW p l e rm_X1_readParts s m args below meth c (QM below args s D cy cs ad (some (.int r)) Z) D cy cs ad 5 23 [(0, .ref (ad 8 0)), (1, .ref (ad 40 k1)), (2, .int v2), (3, .int v3)] [.int t0] S := by
  have hA := B.2.2.2.2.2.2.1
  unfold f_X1_readParts_23 at h
  refine g_istore (lv' := [(4, .int t0), (0, .ref (ad 8 0)), (1, .ref (ad 40 k1)), (2, .int v2), (3, .int v3)]) B dX1_readParts_23 (by decide) rfl ?_
  refine g_aload_n B dX1_readParts_25 1 rfl rfl ?_
  obtain ⟨m1, h⟩ := ck_e h
  refine gt_X1_0 B m1 kf_X1_12 dX1_readParts_26 ?_
  obtain ⟨m2, h⟩ := ck_e h
  refine gt_X7_1 B m2 kf_X1_40 dX1_readParts_29 ?_
  refine g_iload B dX1_readParts_32 0 rfl ?_
  refine g_if_eq B 41 dX1_readParts_34 (by decide) (fun q3 => ?_) (fun q3 => ?_)
  · have h := if_t h q3
    refine g_aload_n B dX1_readParts_41 2 rfl rfl ?_
    refine g_iload_n B dX1_readParts_42 4 rfl rfl ?_
    obtain ⟨m4, h⟩ := ck_e h
    have m4 := of_decide_eq_true m4
    obtain ⟨b5, h⟩ := ck_e h
    refine g_sld B m4 b5 dX1_readParts_43 ?_
    refine g_sub [1, 2, 3, 4, 0] rfl ?_
    exact b_X1_readParts_44 B N _ hK4 _ _ _ _ _ _ _ h
  · have h := if_f h q3
    refine g_iconst (v := (3 : Int32)) B dX1_readParts_37 (by decide) ?_
    refine g_goto B 44 dX1_readParts_38 (by decide) ?_
    refine g_sub [1, 2, 3, 4, 0] rfl ?_
    exact b_X1_readParts_44 B N _ hK4 _ _ _ _ _ _ _ h
def f_X1_readParts_4 (cs : List (Nat × Nat)) (N : Nat)  : Nat → Nat → Int32 → Int32 → HS → Option (Int32 × HS)
  | 0, _, _, _, _ => none
  | n + 1, k1, v2, v3, S =>
    ck (decide (k1 < 5)) (
    if (nI (sLn k1)) ≤ v3 then (
      some ((1 : Int32), S))
    else (
      ck (inb v3 (sLn k1)) (
      if (sVl k1 v3.toNatClampNeg) < (12 : Int32) then (
        f_X1_readParts_23 cs N (f_X1_readParts_4 cs N n) k1 v2 v3 (0 : Int32) S)
      else (
        f_X1_readParts_23 cs N (f_X1_readParts_4 cs N n) k1 v2 v3 (1 : Int32) S))))
set_option maxHeartbeats 4000000 in
set_option maxRecDepth 100000 in
theorem b_X1_readParts_4 {p : Program} {l : Launch} {e : Env} {s : State} {m : MethodId} {args : Array Value} {below : List Frame} {meth : Method} {c : Code} {D : va_G} {cy : Nat → ClassId} {cs : List (Nat × Nat)} {ad : Nat → Nat → Nat} {r : Int32} {Z : HS} (B : Bd p s m args meth c D cy cs ad cX1_readParts 5 RX1 (some .boolean)) (N : Nat)  : ∀ (n : Nat) (k1 : Nat) (v2 : Int32) (v3 : Int32) (S : HS), f_X1_readParts_4 cs N n k1 v2 v3 S = some (r, Z) → GW p l e rm_X1_readParts s m args below meth c (QM below args s D cy cs ad (some (.int r)) Z) D cy cs ad 5 4 [(0, .ref (ad 8 0)), (1, .ref (ad 40 k1)), (2, .int v2), (3, .int v3)] [] S := by
  have hA := B.2.2.2.2.2.2.1
  intro n
  induction n with
  | zero => intro k1 v2 v3 S h; cases h
  | succ n ih =>
    intro k1 v2 v3 S h
    rw [f_X1_readParts_4] at h
    refine g_iload_n B dX1_readParts_4 3 rfl rfl ?_
    refine g_aload_n B dX1_readParts_5 1 rfl rfl ?_
    obtain ⟨m1, h⟩ := ck_e h
    have m1 := of_decide_eq_true m1
    refine g_slen B m1 dX1_readParts_6 ?_
    refine g_icmp_ge B 124 dX1_readParts_7 (by decide) (fun q2 => ?_) (fun q2 => ?_)
    · have h := if_t h q2
      refine g_iconst (v := (1 : Int32)) B dX1_readParts_124 (by decide) ?_
      obtain ⟨rfl, rfl⟩ := some_e h
      exact g_zret B (by decide) dX1_readParts_125
    · have h := if_f h q2
      refine g_aload_n B dX1_readParts_10 1 rfl rfl ?_
      refine g_iload_n B dX1_readParts_11 3 rfl rfl ?_
      obtain ⟨b3, h⟩ := ck_e h
      refine g_sld B m1 b3 dX1_readParts_12 ?_
      refine g_bipush (v := (12 : Int32)) B dX1_readParts_13 (by decide) ?_
      refine g_icmp_lt B 22 dX1_readParts_15 (by decide) (fun q4 => ?_) (fun q4 => ?_)
      · have h := if_t h q4
        refine g_iconst (v := (0 : Int32)) B dX1_readParts_22 (by decide) ?_
        exact b_X1_readParts_23 B N _ ih _ _ _ _ _ h
      · have h := if_f h q4
        refine g_iconst (v := (1 : Int32)) B dX1_readParts_18 (by decide) ?_
        refine g_goto B 23 dX1_readParts_19 (by decide) ?_
        exact b_X1_readParts_23 B N _ ih _ _ _ _ _ h
def f_X1_readParts (cs : List (Nat × Nat)) (N : Nat) (a1 : Nat) (S : HS) : Option (Int32 × HS) :=
  f_X1_readParts_4 cs N N a1 (0 : Int32) (0 : Int32) S
set_option maxHeartbeats 4000000 in
set_option maxRecDepth 100000 in
theorem c_X1_readParts {l : Launch} {D : va_G} {cy : Nat → ClassId} {cs : List (Nat × Nat)} {ad : Nat → Nat → Nat} (hA : AdOk cs ad) (N : Nat) (a1 : Nat) (S : HS) (r : Int32) (Z : HS) (h : f_X1_readParts cs N a1 S = some (r, Z)) : Ctr l yX1_readParts cX1_readParts 5 (some .boolean) rm_X1_readParts D cy cs ad [.ref (ad 8 0), .ref (ad 40 a1)] S (some (.int r)) Z := by
  unfold f_X1_readParts at h
  refine Ctr.of hA RX1 (plainFor_of_name (by decide)) rfl [(0, .ref (ad 8 0)), (1, .ref (ad 40 a1))] rfl (Nat.le_of_ble_eq_true rfl) (fun p e s m below meth c B => ?_)
  refine g_iconst (v := (0 : Int32)) B dX1_readParts_0 (by decide) ?_
  refine g_istore_n (lv' := [(2, .int (0 : Int32)), (0, .ref (ad 8 0)), (1, .ref (ad 40 a1))]) B dX1_readParts_1 rfl (by decide) rfl ?_
  refine g_iconst (v := (0 : Int32)) B dX1_readParts_2 (by decide) ?_
  refine g_istore_n (lv' := [(3, .int (0 : Int32)), (2, .int (0 : Int32)), (0, .ref (ad 8 0)), (1, .ref (ad 40 a1))]) B dX1_readParts_3 rfl (by decide) rfl ?_
  refine g_sub [2, 3, 1, 0] rfl ?_
  exact b_X1_readParts_4 B N N _ _ _ _ h

def rm_X7_rewind : Room := { frames := 8, cells := 0, slots := 0, locals := 167 }
def f_X7_rewind (cs : List (Nat × Nat)) (N : Nat)  (S : HS) : Option (Unit × HS) :=
  ck (mc cs 9 0) (
  lt_ (ui S 9 0 5 (0 : Int32)) (fun S2 =>
  ob (f_X7_readToken cs N  S2) (fun r4 S5 =>
  some ((), S5))))
set_option maxHeartbeats 4000000 in
set_option maxRecDepth 100000 in
theorem c_X7_rewind {l : Launch} {D : va_G} {cy : Nat → ClassId} {cs : List (Nat × Nat)} {ad : Nat → Nat → Nat} (hA : AdOk cs ad) (N : Nat)  (S : HS) (r : Unit) (Z : HS) (h : f_X7_rewind cs N  S = some (r, Z)) : Ctr l yX7_rewind cX7_rewind 1 none rm_X7_rewind D cy cs ad [.ref (ad 9 0)] S (none) Z := by
  unfold f_X7_rewind at h
  refine Ctr.of hA RX7 (plainFor_of_name (by decide)) rfl [(0, .ref (ad 9 0))] rfl (Nat.le_of_ble_eq_true rfl) (fun p e s m below meth c B => ?_)
  refine g_aload_n B dX7_rewind_0 0 rfl rfl ?_
  refine g_iconst (v := (0 : Int32)) B dX7_rewind_1 (by decide) ?_
  obtain ⟨m1, h⟩ := ck_e h
  obtain ⟨S2, e3, h⟩ := lt_e h
  refine pt_X7_5 B m1 kf_X7_19 e3 dX7_rewind_2 ?_
  refine g_aload_n B dX7_rewind_5 0 rfl rfl ?_
  obtain ⟨r4, S5, e6, h⟩ := ob_e h
  refine g_cvv (rest := []) B (c_X7_readToken hA N  _ _ _ e6) mf_X7_readToken km_X7_22 ⟨by decide, by decide⟩ ⟨rfl, rfl⟩ m1 rfl rfl rfl rfl (Nat.le_of_ble_eq_true rfl) dX7_rewind_6 ?_
  obtain ⟨-, rfl⟩ := some_e h
  exact g_vret B dX7_rewind_9

def rm_X1_readLine : Room := { frames := 9, cells := 0, slots := 0, locals := 191 }
def f_X1_readLine_37 (cs : List (Nat × Nat)) (N : Nat)  (k1 : Nat) (v2 : Int32) (S : HS) : Option (Int32 × HS) :=
  ck (mc cs 8 0) (
  if (gi S 8 0 1) < (24 : Int32) then (
    ck (mc cs 9 0) (
    ob (f_X7_readToken cs N  S) (fun r4 S5 =>
    ob (f_X1_formOf cs N v2 S5) (fun r7 S8 =>
    ob (f_X1_readParts cs N r7 S8) (fun r10 S11 =>
    if r10 = 0 then (
      some ((0 : Int32), S11))
    else (
      ob (f_X1_tell cs N v2 k1 S11) (fun r14 S15 =>
      lt_ (ui S15 8 0 1 ((gi S15 8 0 1) + (1 : Int32))) (fun S17 =>
      some ((1 : Int32), S17)))))))))
  else (
    ob (f_X1_stopAt cs N (3 : Int32) S) (fun r19 S20 =>
    ck (b01 r19) (
    some (r19, S20)))))
set_option maxHeartbeats 4000000 in
set_option maxRecDepth 100000 in
theorem b_X1_readLine_37 {p : Program} {l : Launch} {e : Env} {s : State} {m : MethodId} {args : Array Value} {below : List Frame} {meth : Method} {c : Code} {D : va_G} {cy : Nat → ClassId} {cs : List (Nat × Nat)} {ad : Nat → Nat → Nat} {r : Int32} {Z : HS} (B : Bd p s m args meth c D cy cs ad cX1_readLine 3 RX1 (some .boolean)) (N : Nat)  (k1 : Nat) (v2 : Int32) (S : HS) (h : f_X1_readLine_37 cs N k1 v2 S = some (r, Z)) : GW p l e rm_X1_readLine s m args below meth c (QM below args s D cy cs ad (some (.int r)) Z) D cy cs ad 3 37 [(0, .ref (ad 8 0)), (1, .ref (ad 20 k1)), (2, .int v2)] [] S := by
  have hA := B.2.2.2.2.2.2.1
  unfold f_X1_readLine_37 at h
  refine g_aload_n B dX1_readLine_37 0 rfl rfl ?_
  obtain ⟨m1, h⟩ := ck_e h
  refine gt_X1_1 B m1 kf_X1_26 dX1_readLine_38 ?_
  refine g_bipush (v := (24 : Int32)) B dX1_readLine_41 (by decide) ?_
  refine g_icmp_lt B 52 dX1_readLine_43 (by decide) (fun q2 => ?_) (fun q2 => ?_)
  · have h := if_t h q2
    refine g_aload_n B dX1_readLine_52 0 rfl rfl ?_
    refine gt_X1_0 B m1 kf_X1_12 dX1_readLine_53 ?_
    obtain ⟨m3, h⟩ := ck_e h
    obtain ⟨r4, S5, e6, h⟩ := ob_e h
    refine g_cvv (rest := []) B (c_X7_readToken hA N  _ _ _ e6) mf_X7_readToken km_X1_51 ⟨by decide, by decide⟩ ⟨rfl, rfl⟩ m3 rfl rfl rfl rfl (Nat.le_of_ble_eq_true rfl) dX1_readLine_56 ?_
    refine g_aload_n B dX1_readLine_59 0 rfl rfl ?_
    refine g_iload_n B dX1_readLine_60 2 rfl rfl ?_
    obtain ⟨r7, S8, e9, h⟩ := ob_e h
    refine g_csr (rest := [.ref (ad 8 0)]) B (c_X1_formOf hA N _ _ _ _ e9) mf_X1_formOf km_X1_54 ⟨by decide, by decide⟩ ⟨rfl, rfl⟩ rfl rfl (Nat.le_of_ble_eq_true rfl) dX1_readLine_61 ?_
    obtain ⟨r10, S11, e12, h⟩ := ob_e h
    refine g_cvi (rest := []) B (c_X1_readParts hA N _ _ _ _ e12) mf_X1_readParts km_X1_58 ⟨by decide, by decide⟩ ⟨rfl, rfl⟩ m1 rfl rfl rfl rfl (Nat.le_of_ble_eq_true rfl) dX1_readLine_64 ?_
    refine g_if_ne B 72 dX1_readLine_67 (by decide) (fun q13 => ?_) (fun q13 => ?_)
    · have h := if_f h q13
      refine g_aload_n B dX1_readLine_72 0 rfl rfl ?_
      refine g_iload_n B dX1_readLine_73 2 rfl rfl ?_
      refine g_aload_n B dX1_readLine_74 1 rfl rfl ?_
      obtain ⟨r14, S15, e16, h⟩ := ob_e h
      refine g_cvv (rest := []) B (c_X1_tell hA N _ _ _ _ _ e16) mf_X1_tell km_X1_62 ⟨by decide, by decide⟩ ⟨rfl, rfl⟩ m1 rfl rfl rfl rfl (Nat.le_of_ble_eq_true rfl) dX1_readLine_75 ?_
      refine g_aload_n B dX1_readLine_78 0 rfl rfl ?_
      refine g_dup B dX1_readLine_79 rfl ?_
      refine gt_X1_1 B m1 kf_X1_26 dX1_readLine_80 ?_
      refine g_iconst (v := (1 : Int32)) B dX1_readLine_83 (by decide) ?_
      refine g_iadd B dX1_readLine_84 ?_
      obtain ⟨S17, e18, h⟩ := lt_e h
      refine pt_X1_1 B m1 kf_X1_26 e18 dX1_readLine_85 ?_
      refine g_iconst (v := (1 : Int32)) B dX1_readLine_88 (by decide) ?_
      obtain ⟨rfl, rfl⟩ := some_e h
      exact g_zret B (by decide) dX1_readLine_89
    · have h := if_t h q13
      refine g_iconst (v := (0 : Int32)) B dX1_readLine_70 (by decide) ?_
      obtain ⟨rfl, rfl⟩ := some_e h
      exact g_zret B (by decide) dX1_readLine_71
  · have h := if_f h q2
    refine g_aload_n B dX1_readLine_46 0 rfl rfl ?_
    refine g_iconst (v := (3 : Int32)) B dX1_readLine_47 (by decide) ?_
    obtain ⟨r19, S20, e21, h⟩ := ob_e h
    refine g_cvi (rest := []) B (c_X1_stopAt hA N _ _ _ _ e21) mf_X1_stopAt km_X1_47 ⟨by decide, by decide⟩ ⟨rfl, rfl⟩ m1 rfl rfl rfl rfl (Nat.le_of_ble_eq_true rfl) dX1_readLine_48 ?_
    obtain ⟨b22, h⟩ := ck_e h
    obtain ⟨rfl, rfl⟩ := some_e h
    exact g_zret B b22 dX1_readLine_51
def f_X1_readLine (cs : List (Nat × Nat)) (N : Nat) (a1 : Nat) (S : HS) : Option (Int32 × HS) :=
  ck (mc cs 8 0) (
  ck (mc cs 9 0) (
  lt_ ((gi S 9 0 1)) (fun x3 =>
  if x3 = (4 : Int32) then (
    f_X1_readLine_37 cs N a1 x3 S)
  else (
    if x3 = (6 : Int32) then (
      f_X1_readLine_37 cs N a1 x3 S)
    else (
      if x3 = (9 : Int32) then (
        f_X1_readLine_37 cs N a1 x3 S)
      else (
        if x3 = (11 : Int32) then (
          f_X1_readLine_37 cs N a1 x3 S)
        else (
          ob (f_X1_stopAt cs N (1 : Int32) S) (fun r9 S10 =>
          ck (b01 r9) (
          some (r9, S10))))))))))
set_option maxHeartbeats 4000000 in
set_option maxRecDepth 100000 in
theorem c_X1_readLine {l : Launch} {D : va_G} {cy : Nat → ClassId} {cs : List (Nat × Nat)} {ad : Nat → Nat → Nat} (hA : AdOk cs ad) (N : Nat) (a1 : Nat) (S : HS) (r : Int32) (Z : HS) (h : f_X1_readLine cs N a1 S = some (r, Z)) : Ctr l yX1_readLine cX1_readLine 3 (some .boolean) rm_X1_readLine D cy cs ad [.ref (ad 8 0), .ref (ad 20 a1)] S (some (.int r)) Z := by
  unfold f_X1_readLine at h
  refine Ctr.of hA RX1 (plainFor_of_name (by decide)) rfl [(0, .ref (ad 8 0)), (1, .ref (ad 20 a1))] rfl (Nat.le_of_ble_eq_true rfl) (fun p e s m below meth c B => ?_)
  refine g_aload_n B dX1_readLine_0 0 rfl rfl ?_
  obtain ⟨m1, h⟩ := ck_e h
  refine gt_X1_0 B m1 kf_X1_12 dX1_readLine_1 ?_
  obtain ⟨m2, h⟩ := ck_e h
  refine gt_X7_1 B m2 kf_X1_40 dX1_readLine_4 ?_
  obtain ⟨x3, e4, h⟩ := lt_e h
  refine g_topi e4 ?_
  refine g_istore_n (lv' := [(2, .int x3), (0, .ref (ad 8 0)), (1, .ref (ad 20 a1))]) B dX1_readLine_7 rfl (by decide) rfl ?_
  refine g_iload_n B dX1_readLine_8 0 rfl rfl ?_
  refine g_iconst (v := (4 : Int32)) B dX1_readLine_9 (by decide) ?_
  refine g_icmp_eq B 37 dX1_readLine_10 (by decide) (fun q5 => ?_) (fun q5 => ?_)
  · have h := if_t h q5
    refine g_sub [1, 2, 0] rfl ?_
    exact b_X1_readLine_37 B N _ _ _ h
  · have h := if_f h q5
    refine g_iload_n B dX1_readLine_13 0 rfl rfl ?_
    refine g_bipush (v := (6 : Int32)) B dX1_readLine_14 (by decide) ?_
    refine g_icmp_eq B 37 dX1_readLine_16 (by decide) (fun q6 => ?_) (fun q6 => ?_)
    · have h := if_t h q6
      refine g_sub [1, 2, 0] rfl ?_
      exact b_X1_readLine_37 B N _ _ _ h
    · have h := if_f h q6
      refine g_iload_n B dX1_readLine_19 0 rfl rfl ?_
      refine g_bipush (v := (9 : Int32)) B dX1_readLine_20 (by decide) ?_
      refine g_icmp_eq B 37 dX1_readLine_22 (by decide) (fun q7 => ?_) (fun q7 => ?_)
      · have h := if_t h q7
        refine g_sub [1, 2, 0] rfl ?_
        exact b_X1_readLine_37 B N _ _ _ h
      · have h := if_f h q7
        refine g_iload_n B dX1_readLine_25 0 rfl rfl ?_
        refine g_bipush (v := (11 : Int32)) B dX1_readLine_26 (by decide) ?_
        refine g_icmp_eq B 37 dX1_readLine_28 (by decide) (fun q8 => ?_) (fun q8 => ?_)
        · have h := if_t h q8
          refine g_sub [1, 2, 0] rfl ?_
          exact b_X1_readLine_37 B N _ _ _ h
        · have h := if_f h q8
          refine g_aload_n B dX1_readLine_31 1 rfl rfl ?_
          refine g_iconst (v := (1 : Int32)) B dX1_readLine_32 (by decide) ?_
          obtain ⟨r9, S10, e11, h⟩ := ob_e h
          refine g_cvi (rest := []) B (c_X1_stopAt hA N _ _ _ _ e11) mf_X1_stopAt km_X1_47 ⟨by decide, by decide⟩ ⟨rfl, rfl⟩ m1 rfl rfl rfl rfl (Nat.le_of_ble_eq_true rfl) dX1_readLine_33 ?_
          obtain ⟨b12, h⟩ := ck_e h
          obtain ⟨rfl, rfl⟩ := some_e h
          exact g_zret B b12 dX1_readLine_36

def rm_X1_readInto : Room := { frames := 10, cells := 0, slots := 0, locals := 213 }
def f_X1_readInto_28 (cs : List (Nat × Nat)) (N : Nat)  : Nat → Nat → Int32 → HS → Option (Int32 × HS)
  | 0, _, _, _ => none
  | n + 1, k1, v2, S =>
    if (24 : Int32) < v2 then (
      some ((1 : Int32), S))
    else (
      ck (mc cs 8 0) (
      ck (mc cs 9 0) (
      if (gi S 9 0 1) = (1 : Int32) then (
        some ((1 : Int32), S))
      else (
        ob (f_X1_readLine cs N k1 S) (fun r5 S6 =>
        if r5 = 0 then (
          some ((0 : Int32), S6))
        else (
          lt_ (v2 + (1 : Int32)) (fun x9 =>
          f_X1_readInto_28 cs N n k1 x9 S6)))))))
set_option maxHeartbeats 4000000 in
set_option maxRecDepth 100000 in
theorem b_X1_readInto_28 {p : Program} {l : Launch} {e : Env} {s : State} {m : MethodId} {args : Array Value} {below : List Frame} {meth : Method} {c : Code} {D : va_G} {cy : Nat → ClassId} {cs : List (Nat × Nat)} {ad : Nat → Nat → Nat} {r : Int32} {Z : HS} (B : Bd p s m args meth c D cy cs ad cX1_readInto 3 RX1 (some .boolean)) (N : Nat)  : ∀ (n : Nat) (k1 : Nat) (v2 : Int32) (S : HS), f_X1_readInto_28 cs N n k1 v2 S = some (r, Z) → GW p l e rm_X1_readInto s m args below meth c (QM below args s D cy cs ad (some (.int r)) Z) D cy cs ad 3 28 [(0, .ref (ad 8 0)), (1, .ref (ad 20 k1)), (2, .int v2)] [] S := by
  have hA := B.2.2.2.2.2.2.1
  intro n
  induction n with
  | zero => intro k1 v2 S h; cases h
  | succ n ih =>
    intro k1 v2 S h
    rw [f_X1_readInto_28] at h
    refine g_iload_n B dX1_readInto_28 2 rfl rfl ?_
    refine g_bipush (v := (24 : Int32)) B dX1_readInto_29 (by decide) ?_
    refine g_icmp_gt B 61 dX1_readInto_31 (by decide) (fun q1 => ?_) (fun q1 => ?_)
    · have h := if_t h q1
      refine g_iconst (v := (1 : Int32)) B dX1_readInto_61 (by decide) ?_
      obtain ⟨rfl, rfl⟩ := some_e h
      exact g_zret B (by decide) dX1_readInto_62
    · have h := if_f h q1
      refine g_aload_n B dX1_readInto_34 0 rfl rfl ?_
      obtain ⟨m2, h⟩ := ck_e h
      refine gt_X1_0 B m2 kf_X1_12 dX1_readInto_35 ?_
      obtain ⟨m3, h⟩ := ck_e h
      refine gt_X7_1 B m3 kf_X1_40 dX1_readInto_38 ?_
      refine g_iconst (v := (1 : Int32)) B dX1_readInto_41 (by decide) ?_
      refine g_icmp_eq B 61 dX1_readInto_42 (by decide) (fun q4 => ?_) (fun q4 => ?_)
      · have h := if_t h q4
        refine g_iconst (v := (1 : Int32)) B dX1_readInto_61 (by decide) ?_
        obtain ⟨rfl, rfl⟩ := some_e h
        exact g_zret B (by decide) dX1_readInto_62
      · have h := if_f h q4
        refine g_aload_n B dX1_readInto_45 0 rfl rfl ?_
        refine g_aload_n B dX1_readInto_46 1 rfl rfl ?_
        obtain ⟨r5, S6, e7, h⟩ := ob_e h
        refine g_cvi (rest := []) B (c_X1_readLine hA N _ _ _ _ e7) mf_X1_readLine km_X1_43 ⟨by decide, by decide⟩ ⟨rfl, rfl⟩ m2 rfl rfl rfl rfl (Nat.le_of_ble_eq_true rfl) dX1_readInto_47 ?_
        refine g_if_ne B 55 dX1_readInto_50 (by decide) (fun q8 => ?_) (fun q8 => ?_)
        · have h := if_f h q8
          obtain ⟨x9, e10, h⟩ := lt_e h
          refine g_iinc (v := x9) (lv' := [(2, .int x9), (0, .ref (ad 8 0)), (1, .ref (ad 20 k1))]) B dX1_readInto_55 (k := 2) rfl (by rw [e10]; rfl) (by decide) rfl ?_
          refine g_goto B 28 dX1_readInto_58 (by decide) ?_
          refine g_sub [1, 2, 0] rfl ?_
          exact ih _ _ _ h
        · have h := if_t h q8
          refine g_iconst (v := (0 : Int32)) B dX1_readInto_53 (by decide) ?_
          obtain ⟨rfl, rfl⟩ := some_e h
          exact g_zret B (by decide) dX1_readInto_54
def f_X1_readInto (cs : List (Nat × Nat)) (N : Nat) (a1 : Nat) (S : HS) : Option (Int32 × HS) :=
  ck (mc cs 8 0) (
  lt_ (ui S 8 0 1 (0 : Int32)) (fun S2 =>
  lt_ (ui S2 8 0 2 (0 : Int32)) (fun S4 =>
  lt_ (ui S4 8 0 3 (-1 : Int32)) (fun S6 =>
  ck (mc cs 20 a1) (
  ob (f_X5_forget cs N a1 S6) (fun r9 S10 =>
  ck (mc cs 9 0) (
  ob (f_X7_rewind cs N  S10) (fun r13 S14 =>
  f_X1_readInto_28 cs N N a1 (0 : Int32) S14))))))))
set_option maxHeartbeats 4000000 in
set_option maxRecDepth 100000 in
theorem c_X1_readInto {l : Launch} {D : va_G} {cy : Nat → ClassId} {cs : List (Nat × Nat)} {ad : Nat → Nat → Nat} (hA : AdOk cs ad) (N : Nat) (a1 : Nat) (S : HS) (r : Int32) (Z : HS) (h : f_X1_readInto cs N a1 S = some (r, Z)) : Ctr l yX1_readInto cX1_readInto 3 (some .boolean) rm_X1_readInto D cy cs ad [.ref (ad 8 0), .ref (ad 20 a1)] S (some (.int r)) Z := by
  unfold f_X1_readInto at h
  refine Ctr.of hA RX1 (plainFor_of_name (by decide)) rfl [(0, .ref (ad 8 0)), (1, .ref (ad 20 a1))] rfl (Nat.le_of_ble_eq_true rfl) (fun p e s m below meth c B => ?_)
  refine g_aload_n B dX1_readInto_0 0 rfl rfl ?_
  refine g_iconst (v := (0 : Int32)) B dX1_readInto_1 (by decide) ?_
  obtain ⟨m1, h⟩ := ck_e h
  obtain ⟨S2, e3, h⟩ := lt_e h
  refine pt_X1_1 B m1 kf_X1_26 e3 dX1_readInto_2 ?_
  refine g_aload_n B dX1_readInto_5 0 rfl rfl ?_
  refine g_iconst (v := (0 : Int32)) B dX1_readInto_6 (by decide) ?_
  obtain ⟨S4, e5, h⟩ := lt_e h
  refine pt_X1_2 B m1 kf_X1_29 e5 dX1_readInto_7 ?_
  refine g_aload_n B dX1_readInto_10 0 rfl rfl ?_
  refine g_iconst (v := (-1 : Int32)) B dX1_readInto_11 (by decide) ?_
  obtain ⟨S6, e7, h⟩ := lt_e h
  refine pt_X1_3 B m1 kf_X1_18 e7 dX1_readInto_12 ?_
  refine g_aload_n B dX1_readInto_15 1 rfl rfl ?_
  obtain ⟨m8, h⟩ := ck_e h
  obtain ⟨r9, S10, e11, h⟩ := ob_e h
  refine g_cvv (rest := []) B (c_X5_forget hA N _ _ _ _ e11) mf_X5_forget km_X1_32 ⟨by decide, by decide⟩ ⟨rfl, rfl⟩ m8 rfl rfl rfl rfl (Nat.le_of_ble_eq_true rfl) dX1_readInto_16 ?_
  refine g_aload_n B dX1_readInto_19 0 rfl rfl ?_
  refine gt_X1_0 B m1 kf_X1_12 dX1_readInto_20 ?_
  obtain ⟨m12, h⟩ := ck_e h
  obtain ⟨r13, S14, e15, h⟩ := ob_e h
  refine g_cvv (rest := []) B (c_X7_rewind hA N  _ _ _ e15) mf_X7_rewind km_X1_37 ⟨by decide, by decide⟩ ⟨rfl, rfl⟩ m12 rfl rfl rfl rfl (Nat.le_of_ble_eq_true rfl) dX1_readInto_23 ?_
  refine g_iconst (v := (0 : Int32)) B dX1_readInto_26 (by decide) ?_
  refine g_istore_n (lv' := [(2, .int (0 : Int32)), (0, .ref (ad 8 0)), (1, .ref (ad 20 a1))]) B dX1_readInto_27 rfl (by decide) rfl ?_
  refine g_sub [1, 2, 0] rfl ?_
  exact b_X1_readInto_28 B N N _ _ _ h
