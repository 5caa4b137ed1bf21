def rm_J9_max_7cf53 : Room := { frames := 0, cells := 0, slots := 0, locals := 0 }
def f_J9_max_7cf53 (cs : List (Nat × Nat)) (N : Nat) (a1 : Int32) (a2 : Int32) (S : HS) : Option (Int32 × HS) :=
  if a1 < a2 then (
    some (a2, S))
  else (
    some (a1, S))
set_option maxHeartbeats 4000000 in
set_option maxRecDepth 100000 in
theorem c_J9_max_7cf53 {l : Launch} {D : va_G} {cy : Nat → ClassId} {cs : List (Nat × Nat)} {ad : Nat → Nat → Nat} {Zp : State → Prop} (hA : AdOk cs ad) (hZ : ZOk cs ad Zp) (N : Nat) (a1 : Int32) (a2 : Int32) (S : HS) (r : Int32) (Z : HS) (h : f_J9_max_7cf53 cs N a1 a2 S = some (r, Z)) : Ctr Zp l yJ9_max_7cf53 cJ9_max_7cf53 2 (some .int) rm_J9_max_7cf53 D cy cs ad [.int a1, .int a2] S (some (.int r)) Z := by
  unfold f_J9_max_7cf53 at h
  refine Ctr.of hA hZ RJ9 (by decide +kernel) rfl [(0, .int a1), (1, .int a2)] rfl (Nat.le_of_ble_eq_true rfl) (fun p e s m below meth c B => ?_)
  refine g_iload_n B dJ9_max_7cf53_0 0 rfl rfl ?_
  refine g_iload_n B dJ9_max_7cf53_1 1 rfl rfl ?_
  refine g_icmp_lt B 9 dJ9_max_7cf53_2 (by decide) (fun q1 => ?_) (fun q1 => ?_)
  · have h := if_t h q1
    refine g_iload_n B dJ9_max_7cf53_9 1 rfl rfl ?_
    obtain ⟨rfl, rfl⟩ := some_e h
    exact g_iret B dJ9_max_7cf53_10
  · have h := if_f h q1
    refine g_iload_n B dJ9_max_7cf53_5 0 rfl rfl ?_
    refine g_goto B 10 dJ9_max_7cf53_6 (by decide) ?_
    obtain ⟨rfl, rfl⟩ := some_e h
    exact g_iret B dJ9_max_7cf53_10

def rm_J9_min_7cf53 : Room := { frames := 0, cells := 0, slots := 0, locals := 0 }
def f_J9_min_7cf53 (cs : List (Nat × Nat)) (N : Nat) (a1 : Int32) (a2 : Int32) (S : HS) : Option (Int32 × HS) :=
  if a2 < a1 then (
    some (a2, S))
  else (
    some (a1, S))
set_option maxHeartbeats 4000000 in
set_option maxRecDepth 100000 in
theorem c_J9_min_7cf53 {l : Launch} {D : va_G} {cy : Nat → ClassId} {cs : List (Nat × Nat)} {ad : Nat → Nat → Nat} {Zp : State → Prop} (hA : AdOk cs ad) (hZ : ZOk cs ad Zp) (N : Nat) (a1 : Int32) (a2 : Int32) (S : HS) (r : Int32) (Z : HS) (h : f_J9_min_7cf53 cs N a1 a2 S = some (r, Z)) : Ctr Zp l yJ9_min_7cf53 cJ9_min_7cf53 2 (some .int) rm_J9_min_7cf53 D cy cs ad [.int a1, .int a2] S (some (.int r)) Z := by
  unfold f_J9_min_7cf53 at h
  refine Ctr.of hA hZ RJ9 (by decide +kernel) rfl [(0, .int a1), (1, .int a2)] rfl (Nat.le_of_ble_eq_true rfl) (fun p e s m below meth c B => ?_)
  refine g_iload_n B dJ9_min_7cf53_0 0 rfl rfl ?_
  refine g_iload_n B dJ9_min_7cf53_1 1 rfl rfl ?_
  refine g_icmp_gt B 9 dJ9_min_7cf53_2 (by decide) (fun q1 => ?_) (fun q1 => ?_)
  · have h := if_t h q1
    refine g_iload_n B dJ9_min_7cf53_9 1 rfl rfl ?_
    obtain ⟨rfl, rfl⟩ := some_e h
    exact g_iret B dJ9_min_7cf53_10
  · have h := if_f h q1
    refine g_iload_n B dJ9_min_7cf53_5 0 rfl rfl ?_
    refine g_goto B 10 dJ9_min_7cf53_6 (by decide) ?_
    obtain ⟨rfl, rfl⟩ := some_e h
    exact g_iret B dJ9_min_7cf53_10

def rm_J3_checkIndex_8e157 : Room := { frames := 0, cells := 0, slots := 0, locals := 0 }
def f_J3_checkIndex_8e157_9 (cs : List (Nat × Nat)) (N : Nat)  (v0 : Int32) (v1 : Int32) (S : HS) : Option (Int32 × HS) :=
  none
set_option maxHeartbeats 4000000 in
set_option maxRecDepth 100000 in
theorem b_J3_checkIndex_8e157_9 {p : Program} {l : Launch} {e : Env} {s : State} {m : MethodId} {args : Array Value} {below : List Frame} {meth : Method} {c : Code} {D : va_G} {cy : Nat → ClassId} {cs : List (Nat × Nat)} {ad : Nat → Nat → Nat} {Zp : State → Prop} {r : Int32} {Z : HS} (B : Bd p s m args meth c D cy cs ad Zp cJ3_checkIndex_8e157 3 RJ3 (some .int)) (N : Nat)  (v0 : Int32) (v1 : Int32) (S : HS) (h : f_J3_checkIndex_8e157_9 cs N v0 v1 S = some (r, Z)) : GW p l e rm_J3_checkIndex_8e157 s m args below meth c (QM below args s D cy cs ad (some (.int r)) Z) D cy cs ad 0 0 3 9 [(0, .int v0), (1, .int v1), (2, (fmtv ad))] [] S := by
  have hA := B.2.2.2.2.2.2.1
  have hZ := B.2.2.2.2.2.2.2.2.2.2
  unfold f_J3_checkIndex_8e157_9 at h
  cases h
def f_J3_checkIndex_8e157 (cs : List (Nat × Nat)) (N : Nat) (a1 : Int32) (a2 : Int32) (S : HS) : Option (Int32 × HS) :=
  if a1 < 0 then (
    f_J3_checkIndex_8e157_9 cs N a1 a2 S)
  else (
    if a1 < a2 then (
      some (a1, S))
    else (
      f_J3_checkIndex_8e157_9 cs N a1 a2 S))
set_option maxHeartbeats 4000000 in
set_option maxRecDepth 100000 in
theorem c_J3_checkIndex_8e157 {l : Launch} {D : va_G} {cy : Nat → ClassId} {cs : List (Nat × Nat)} {ad : Nat → Nat → Nat} {Zp : State → Prop} (hA : AdOk cs ad) (hZ : ZOk cs ad Zp) (N : Nat) (a1 : Int32) (a2 : Int32) (S : HS) (r : Int32) (Z : HS) (h : f_J3_checkIndex_8e157 cs N a1 a2 S = some (r, Z)) : Ctr Zp l yJ3_checkIndex_8e157 cJ3_checkIndex_8e157 3 (some .int) rm_J3_checkIndex_8e157 D cy cs ad [.int a1, .int a2, (fmtv ad)] S (some (.int r)) Z := by
  unfold f_J3_checkIndex_8e157 at h
  refine Ctr.of hA hZ RJ3 (plainFor_of_name (by decide)) rfl [(0, .int a1), (1, .int a2), (2, (fmtv ad))] rfl (by simp [lg_sl, fmtv_cat, show ∀ x : Int32, (Value.int x).category = 1 from fun _ => rfl]) (fun p e s m below meth c B => ?_)
  refine g_iload_n B dJ3_checkIndex_8e157_0 0 rfl rfl ?_
  refine g_if_lt B 9 dJ3_checkIndex_8e157_1 (by decide) (fun q1 => ?_) (fun q1 => ?_)
  · have h := if_t h q1
    exact b_J3_checkIndex_8e157_9 B N _ _ _ h
  · have h := if_f h q1
    refine g_iload_n B dJ3_checkIndex_8e157_4 0 rfl rfl ?_
    refine g_iload_n B dJ3_checkIndex_8e157_5 1 rfl rfl ?_
    refine g_icmp_lt B 16 dJ3_checkIndex_8e157_6 (by decide) (fun q2 => ?_) (fun q2 => ?_)
    · have h := if_t h q2
      refine g_iload_n B dJ3_checkIndex_8e157_16 0 rfl rfl ?_
      obtain ⟨rfl, rfl⟩ := some_e h
      exact g_iret B dJ3_checkIndex_8e157_17
    · have h := if_f h q2
      exact b_J3_checkIndex_8e157_9 B N _ _ _ h

def rm_J0_checkIndex_df160 : Room := { frames := 1, cells := 0, slots := 0, locals := 22 }
def f_J0_checkIndex_df160 (cs : List (Nat × Nat)) (N : Nat) (a1 : Int32) (a2 : Int32) (S : HS) : Option (Unit × HS) :=
  ob (f_J3_checkIndex_8e157 cs N a1 a2 S) (fun r1 S2 =>
  some ((), S2))
set_option maxHeartbeats 4000000 in
set_option maxRecDepth 100000 in
theorem c_J0_checkIndex_df160 {l : Launch} {D : va_G} {cy : Nat → ClassId} {cs : List (Nat × Nat)} {ad : Nat → Nat → Nat} (hA : AdOk cs ad) (N : Nat) (a1 : Int32) (a2 : Int32) (S : HS) (r : Unit) (Z : HS) (h : f_J0_checkIndex_df160 cs N a1 a2 S = some (r, Z)) : Ctr (gZ cs ad) l yJ0_checkIndex_df160 cJ0_checkIndex_df160 2 none rm_J0_checkIndex_df160 D cy cs ad [.int a1, .int a2] S (none) Z := by
  have hZ := gZ_ok cs ad
  unfold f_J0_checkIndex_df160 at h
  refine Ctr.of hA (gZ_ok cs ad) RJ0 (plainFor_of_name (by decide)) rfl [(0, .int a1), (1, .int a2)] rfl (Nat.le_of_ble_eq_true rfl) (fun p e s m below meth c B => ?_)
  refine g_iload_n B dJ0_checkIndex_df160_0 0 rfl rfl ?_
  refine g_iload_n B dJ0_checkIndex_df160_1 1 rfl rfl ?_
  refine g_gfm B kf_J0_1053 dJ0_checkIndex_df160_2 ?_
  obtain ⟨r1, S2, e3, h⟩ := ob_e h
  refine g_csi (rest := []) B (c_J3_checkIndex_8e157 hA hZ N _ _ _ _ _ e3) mf_J3_checkIndex_8e157 km_J0_1059 ⟨by decide, by decide⟩ ⟨rfl, rfl⟩ rfl rfl (Nat.le_of_ble_eq_true rfl) ⟨Nat.zero_le _, Nat.zero_le _⟩ dJ0_checkIndex_df160_5 ?_
  refine g_pop B dJ0_checkIndex_df160_8 rfl ?_
  obtain ⟨-, rfl⟩ := some_e h
  exact g_vret B dJ0_checkIndex_df160_9

def rm_J0_coder_7d493 : Room := { frames := 0, cells := 0, slots := 0, locals := 0 }
def f_J0_coder_7d493 (cs : List (Nat × Nat)) (N : Nat) (k : Nat) (S : HS) : Option (Int32 × HS) :=
  if (1 : Int32) = 0 then (
    some ((1 : Int32), S))
  else (
    ck (decide (k < 8)) (
    some ((0 : Int32), S)))
set_option maxHeartbeats 4000000 in
set_option maxRecDepth 100000 in
theorem c_J0_coder_7d493 {l : Launch} {D : va_G} {cy : Nat → ClassId} {cs : List (Nat × Nat)} {ad : Nat → Nat → Nat} (hA : AdOk cs ad) (N : Nat) (k : Nat) (S : HS) (r : Int32) (Z : HS) (h : f_J0_coder_7d493 cs N k S = some (r, Z)) : Ctr (gZ cs ad) l yJ0_coder_7d493 cJ0_coder_7d493 1 (some .byte) rm_J0_coder_7d493 D cy cs ad [.ref (ad 41 k)] S (some (.int r)) Z := by
  have hZ := gZ_ok cs ad
  unfold f_J0_coder_7d493 at h
  refine Ctr.of hA (gZ_ok cs ad) RJ0 (plainFor_of_name (by decide)) rfl [(0, .ref (ad 41 k))] rfl (Nat.le_of_ble_eq_true rfl) (fun p e s m below meth c B => ?_)
  refine g_gcs B kf_J0_38 dJ0_coder_7d493_0 ?_
  refine g_if_eq B 13 dJ0_coder_7d493_3 (by decide) (fun q1 => ?_) (fun q1 => ?_)
  · have h := if_t h q1
    refine g_iconst (v := (1 : Int32)) B dJ0_coder_7d493_13 (by decide) ?_
    obtain ⟨rfl, rfl⟩ := some_e h
    exact g_nret B (by decide) dJ0_coder_7d493_14
  · have h := if_f h q1
    refine g_aload_n B dJ0_coder_7d493_6 0 rfl rfl ?_
    obtain ⟨m2, h⟩ := ck_e h
    have m2 := of_decide_eq_true m2
    refine g_kcod B m2 kf_J0_15 dJ0_coder_7d493_7 ?_
    refine g_goto B 14 dJ0_coder_7d493_10 (by decide) ?_
    obtain ⟨rfl, rfl⟩ := some_e h
    exact g_nret B (by decide) dJ0_coder_7d493_14

def rm_J0_isLatin1_aae02 : Room := { frames := 0, cells := 0, slots := 0, locals := 0 }
def f_J0_isLatin1_aae02 (cs : List (Nat × Nat)) (N : Nat) (k : Nat) (S : HS) : Option (Int32 × HS) :=
  if (1 : Int32) = 0 then (
    some ((0 : Int32), S))
  else (
    ck (decide (k < 8)) (
    if (0 : Int32) = 0 then (
      some ((1 : Int32), S))
    else (
      some ((0 : Int32), S))))
set_option maxHeartbeats 4000000 in
set_option maxRecDepth 100000 in
theorem c_J0_isLatin1_aae02 {l : Launch} {D : va_G} {cy : Nat → ClassId} {cs : List (Nat × Nat)} {ad : Nat → Nat → Nat} (hA : AdOk cs ad) (N : Nat) (k : Nat) (S : HS) (r : Int32) (Z : HS) (h : f_J0_isLatin1_aae02 cs N k S = some (r, Z)) : Ctr (gZ cs ad) l yJ0_isLatin1_aae02 cJ0_isLatin1_aae02 1 (some .boolean) rm_J0_isLatin1_aae02 D cy cs ad [.ref (ad 41 k)] S (some (.int r)) Z := by
  have hZ := gZ_ok cs ad
  unfold f_J0_isLatin1_aae02 at h
  refine Ctr.of hA (gZ_ok cs ad) RJ0 (plainFor_of_name (by decide)) rfl [(0, .ref (ad 41 k))] rfl (Nat.le_of_ble_eq_true rfl) (fun p e s m below meth c B => ?_)
  refine g_gcs B kf_J0_38 dJ0_isLatin1_aae02_0 ?_
  refine g_if_eq B 17 dJ0_isLatin1_aae02_3 (by decide) (fun q1 => ?_) (fun q1 => ?_)
  · have h := if_t h q1
    refine g_iconst (v := (0 : Int32)) B dJ0_isLatin1_aae02_17 (by decide) ?_
    obtain ⟨rfl, rfl⟩ := some_e h
    exact g_zret B (by decide) dJ0_isLatin1_aae02_18
  · have h := if_f h q1
    refine g_aload_n B dJ0_isLatin1_aae02_6 0 rfl rfl ?_
    obtain ⟨m2, h⟩ := ck_e h
    have m2 := of_decide_eq_true m2
    refine g_kcod B m2 kf_J0_15 dJ0_isLatin1_aae02_7 ?_
    refine g_if_ne B 17 dJ0_isLatin1_aae02_10 (by decide) (fun q3 => ?_) (fun q3 => ?_)
    · have h := if_f h q3
      refine g_iconst (v := (0 : Int32)) B dJ0_isLatin1_aae02_17 (by decide) ?_
      obtain ⟨rfl, rfl⟩ := some_e h
      exact g_zret B (by decide) dJ0_isLatin1_aae02_18
    · have h := if_t h q3
      refine g_iconst (v := (1 : Int32)) B dJ0_isLatin1_aae02_13 (by decide) ?_
      refine g_goto B 18 dJ0_isLatin1_aae02_14 (by decide) ?_
      obtain ⟨rfl, rfl⟩ := some_e h
      exact g_zret B (by decide) dJ0_isLatin1_aae02_18

def rm_J0_length_8abf5 : Room := { frames := 1, cells := 0, slots := 0, locals := 20 }
def f_J0_length_8abf5 (cs : List (Nat × Nat)) (N : Nat) (k : Nat) (S : HS) : Option (Int32 × HS) :=
  ck (decide (k < 8)) (
  ob (f_J0_coder_7d493 cs N k S) (fun r2 S3 =>
  some (((nI (lenK.getD k 0)) >>> (r2 &&& 31)), S3)))
set_option maxHeartbeats 4000000 in
set_option maxRecDepth 100000 in
theorem c_J0_length_8abf5 {l : Launch} {D : va_G} {cy : Nat → ClassId} {cs : List (Nat × Nat)} {ad : Nat → Nat → Nat} (hA : AdOk cs ad) (N : Nat) (k : Nat) (S : HS) (r : Int32) (Z : HS) (h : f_J0_length_8abf5 cs N k S = some (r, Z)) : Ctr (gZ cs ad) l yJ0_length_8abf5 cJ0_length_8abf5 1 (some .int) rm_J0_length_8abf5 D cy cs ad [.ref (ad 41 k)] S (some (.int r)) Z := by
  have hZ := gZ_ok cs ad
  unfold f_J0_length_8abf5 at h
  refine Ctr.of hA (gZ_ok cs ad) RJ0 (plainFor_of_name (by decide)) rfl [(0, .ref (ad 41 k))] rfl (Nat.le_of_ble_eq_true rfl) (fun p e s m below meth c B => ?_)
  refine g_aload_n B dJ0_length_8abf5_0 0 rfl rfl ?_
  obtain ⟨m1, h⟩ := ck_e h
  have m1 := of_decide_eq_true m1
  refine g_kval B m1 kf_J0_9 dJ0_length_8abf5_1 ?_
  refine g_klen B m1 dJ0_length_8abf5_4 ?_
  refine g_aload_n B dJ0_length_8abf5_5 0 rfl rfl ?_
  obtain ⟨r2, S3, e4, h⟩ := ob_e h
  refine g_cvk (rest := [.int (nI (lenK.getD k 0))]) B (c_J0_coder_7d493 hA N _ _ _ _ e4) mf_J0_coder_7d493 km_J0_335 ⟨by decide, by decide⟩ ⟨rfl, rfl⟩ m1 rfl rfl (Nat.le_of_ble_eq_true rfl) ⟨Nat.zero_le _, Nat.zero_le _⟩ dJ0_length_8abf5_6 ?_
  refine g_ishr B dJ0_length_8abf5_9 ?_
  obtain ⟨rfl, rfl⟩ := some_e h
  exact g_iret B dJ0_length_8abf5_10

def rm_J1_charAt_3b067 : Room := { frames := 2, cells := 0, slots := 0, locals := 43 }
def f_J1_charAt_3b067 (cs : List (Nat × Nat)) (N : Nat) (a1 : Nat) (a2 : Int32) (S : HS) : Option (Int32 × HS) :=
  ck (decide (a1 < 8)) (
  ob (f_J0_checkIndex_df160 cs N a2 (nI (lenK.getD a1 0)) S) (fun r2 S3 =>
  ck (inb a2 (lenK.getD a1 0)) (
  ck (c16 (((((bytK.getD a1 []).getD a2.toNatClampNeg 0) &&& (255 : Int32)).toUInt32 % 65536).toInt32)) (
  some (((((bytK.getD a1 []).getD a2.toNatClampNeg 0) &&& (255 : Int32)).toUInt32 % 65536).toInt32, S3)))))
set_option maxHeartbeats 4000000 in
set_option maxRecDepth 100000 in
theorem c_J1_charAt_3b067 {l : Launch} {D : va_G} {cy : Nat → ClassId} {cs : List (Nat × Nat)} {ad : Nat → Nat → Nat} (hA : AdOk cs ad) (N : Nat) (a1 : Nat) (a2 : Int32) (S : HS) (r : Int32) (Z : HS) (h : f_J1_charAt_3b067 cs N a1 a2 S = some (r, Z)) : Ctr (gZ cs ad) l yJ1_charAt_3b067 cJ1_charAt_3b067 2 (some .char) rm_J1_charAt_3b067 D cy cs ad [.ref (ad 42 a1), .int a2] S (some (.int r)) Z := by
  have hZ := gZ_ok cs ad
  unfold f_J1_charAt_3b067 at h
  refine Ctr.of hA (gZ_ok cs ad) RJ1 (plainFor_of_name (by decide)) rfl [(0, .ref (ad 42 a1)), (1, .int a2)] rfl (Nat.le_of_ble_eq_true rfl) (fun p e s m below meth c B => ?_)
  refine g_iload_n B dJ1_charAt_3b067_0 1 rfl rfl ?_
  refine g_aload_n B dJ1_charAt_3b067_1 0 rfl rfl ?_
  obtain ⟨m1, h⟩ := ck_e h
  have m1 := of_decide_eq_true m1
  refine g_klen B m1 dJ1_charAt_3b067_2 ?_
  obtain ⟨r2, S3, e4, h⟩ := ob_e h
  refine g_csv (rest := []) B (c_J0_checkIndex_df160 hA N _ _ _ _ _ e4) mf_J0_checkIndex_df160 km_J1_9 ⟨by decide, by decide⟩ ⟨rfl, rfl⟩ rfl rfl (Nat.le_of_ble_eq_true rfl) ⟨Nat.zero_le _, Nat.zero_le _⟩ dJ1_charAt_3b067_3 ?_
  refine g_aload_n B dJ1_charAt_3b067_6 0 rfl rfl ?_
  refine g_iload_n B dJ1_charAt_3b067_7 1 rfl rfl ?_
  obtain ⟨b5, h⟩ := ck_e h
  refine g_kld B m1 b5 dJ1_charAt_3b067_8 ?_
  refine g_sipush (v := (255 : Int32)) B dJ1_charAt_3b067_9 (by decide) ?_
  refine g_iand B dJ1_charAt_3b067_12 ?_
  refine g_i2c B dJ1_charAt_3b067_13 ?_
  obtain ⟨b6, h⟩ := ck_e h
  obtain ⟨rfl, rfl⟩ := some_e h
  exact g_nret B (c16_n b6) dJ1_charAt_3b067_14

def rm_J0_charAt_5068e : Room := { frames := 3, cells := 0, slots := 0, locals := 64 }
def f_J0_charAt_5068e (cs : List (Nat × Nat)) (N : Nat) (k : Nat) (a1 : Int32) (S : HS) : Option (Int32 × HS) :=
  ck (decide (k < 8)) (
  ob (f_J0_isLatin1_aae02 cs N k S) (fun r2 S3 =>
  if r2 = 0 then (
    none)
  else (
    ob (f_J1_charAt_3b067 cs N k a1 S3) (fun r6 S7 =>
    ck (c16 r6) (
    some (r6, S7))))))
set_option maxHeartbeats 4000000 in
set_option maxRecDepth 100000 in
theorem c_J0_charAt_5068e {l : Launch} {D : va_G} {cy : Nat → ClassId} {cs : List (Nat × Nat)} {ad : Nat → Nat → Nat} (hA : AdOk cs ad) (N : Nat) (k : Nat) (a1 : Int32) (S : HS) (r : Int32) (Z : HS) (h : f_J0_charAt_5068e cs N k a1 S = some (r, Z)) : Ctr (gZ cs ad) l yJ0_charAt_5068e cJ0_charAt_5068e 2 (some .char) rm_J0_charAt_5068e D cy cs ad [.ref (ad 41 k), .int a1] S (some (.int r)) Z := by
  have hZ := gZ_ok cs ad
  unfold f_J0_charAt_5068e at h
  refine Ctr.of hA (gZ_ok cs ad) RJ0 (plainFor_of_name (by decide)) rfl [(0, .ref (ad 41 k)), (1, .int a1)] rfl (Nat.le_of_ble_eq_true rfl) (fun p e s m below meth c B => ?_)
  refine g_aload_n B dJ0_charAt_5068e_0 0 rfl rfl ?_
  obtain ⟨m1, h⟩ := ck_e h
  have m1 := of_decide_eq_true m1
  obtain ⟨r2, S3, e4, h⟩ := ob_e h
  refine g_cvk (rest := []) B (c_J0_isLatin1_aae02 hA N _ _ _ _ e4) mf_J0_isLatin1_aae02 km_J0_492 ⟨by decide, by decide⟩ ⟨rfl, rfl⟩ m1 rfl rfl (Nat.le_of_ble_eq_true rfl) ⟨Nat.zero_le _, Nat.zero_le _⟩ dJ0_charAt_5068e_1 ?_
  refine g_if_eq B 16 dJ0_charAt_5068e_4 (by decide) (fun q5 => ?_) (fun q5 => ?_)
  · have h := if_t h q5
    refine g_aload_n B dJ0_charAt_5068e_16 0 rfl rfl ?_
    refine g_kval B m1 kf_J0_9 dJ0_charAt_5068e_17 ?_
    refine g_iload_n B dJ0_charAt_5068e_20 1 rfl rfl ?_
    cases h
  · have h := if_f h q5
    refine g_aload_n B dJ0_charAt_5068e_7 0 rfl rfl ?_
    refine g_kval B m1 kf_J0_9 dJ0_charAt_5068e_8 ?_
    refine g_iload_n B dJ0_charAt_5068e_11 1 rfl rfl ?_
    obtain ⟨r6, S7, e8, h⟩ := ob_e h
    refine g_csi (rest := []) B (c_J1_charAt_3b067 hA N _ _ _ _ _ e8) mf_J1_charAt_3b067 km_J0_495 ⟨by decide, by decide⟩ ⟨rfl, rfl⟩ rfl rfl (Nat.le_of_ble_eq_true rfl) ⟨Nat.zero_le _, Nat.zero_le _⟩ dJ0_charAt_5068e_12 ?_
    obtain ⟨b9, h⟩ := ck_e h
    obtain ⟨rfl, rfl⟩ := some_e h
    exact g_nret B (c16_n b9) dJ0_charAt_5068e_15

def rm_X1_formOf : Room := { frames := 0, cells := 0, slots := 0, locals := 0 }
def f_X1_formOf (cs : List (Nat × Nat)) (N : Nat) (a1 : Int32) (S : HS) : Option (Nat × HS) :=
  if a1 = (4 : Int32) then (
    some (0, S))
  else (
  if a1 = (6 : Int32) then (
    some (1, S))
  else (
  if a1 = (9 : Int32) then (
    some (2, S))
  else (
  some (3, S))))
set_option maxHeartbeats 4000000 in
set_option maxRecDepth 100000 in
theorem c_X1_formOf {l : Launch} {D : va_G} {cy : Nat → ClassId} {cs : List (Nat × Nat)} {ad : Nat → Nat → Nat} (hA : AdOk cs ad) (N : Nat) (a1 : Int32) (S : HS) (r : Nat) (Z : HS) (h : f_X1_formOf cs N a1 S = some (r, Z)) : Ctr (gZ cs ad) l yX1_formOf cX1_formOf 1 (some (.array .int)) rm_X1_formOf D cy cs ad [.int a1] S (some (.ref (ad 40 r))) Z := by
  have hZ := gZ_ok cs ad
  unfold f_X1_formOf at h
  refine Ctr.of hA (gZ_ok cs ad) RX1 (plainFor_of_name (by decide)) rfl [(0, .int a1)] rfl (Nat.le_of_ble_eq_true rfl) (fun p e s m below meth c B => ?_)
  refine g_iload_n B dX1_formOf_0 0 rfl rfl ?_
  by_cases q1 : a1 = (4 : Int32)
  · have h := if_t h q1
    refine g_lookup (off := 35) B 36 dX1_formOf_1 (by decide) (by rw [q1]; decide) (by decide) ?_
    refine g_gets B (k := 0) (by decide) rfl (by decide +kernel) dX1_formOf_36 ?_
    obtain ⟨rfl, rfl⟩ := some_e h
    exact g_aret B dX1_formOf_39
  have h := if_f h q1
  by_cases q2 : a1 = (6 : Int32)
  · have h := if_t h q2
    refine g_lookup (off := 39) B 40 dX1_formOf_1 (by decide) (by rw [q2]; decide) (by decide) ?_
    refine g_gets B (k := 1) (by decide) rfl (by decide +kernel) dX1_formOf_40 ?_
    obtain ⟨rfl, rfl⟩ := some_e h
    exact g_aret B dX1_formOf_43
  have h := if_f h q2
  by_cases q3 : a1 = (9 : Int32)
  · have h := if_t h q3
    refine g_lookup (off := 43) B 44 dX1_formOf_1 (by decide) (by rw [q3]; decide) (by decide) ?_
    refine g_gets B (k := 2) (by decide) rfl (by decide +kernel) dX1_formOf_44 ?_
    obtain ⟨rfl, rfl⟩ := some_e h
    exact g_aret B dX1_formOf_47
  have h := if_f h q3
  refine g_lookup (off := 47) B 48 dX1_formOf_1 (by decide) (by show Op.lookupswitch.offset [(4, 35), (6, 39), (9, 43)] 47 _ = _; rw [lv_osw q1 (by decide), lv_osw q2 (by decide), lv_osw q3 (by decide)]; rfl) (by decide) ?_
  refine g_gets B (k := 3) (by decide) rfl (by decide +kernel) dX1_formOf_48 ?_
  obtain ⟨rfl, rfl⟩ := some_e h
  exact g_aret B dX1_formOf_51

def rm_X1_leastOf : Room := { frames := 0, cells := 0, slots := 0, locals := 0 }
def f_X1_leastOf (cs : List (Nat × Nat)) (N : Nat) (a1 : Int32) (S : HS) : Option (Int32 × HS) :=
  if a1 = (15 : Int32) then (
    ck (mc cs 8 0) (
    ck (mc cs 11 0) (
    ck (inb (1 : Int32) 3) (
    some ((gi S 11 0 (1 : Int32).toNatClampNeg), S)))))
  else (
    some ((0 : Int32), S))
set_option maxHeartbeats 4000000 in
set_option maxRecDepth 100000 in
theorem c_X1_leastOf {l : Launch} {D : va_G} {cy : Nat → ClassId} {cs : List (Nat × Nat)} {ad : Nat → Nat → Nat} {Zp : State → Prop} (hA : AdOk cs ad) (hZ : ZOk cs ad Zp) (N : Nat) (a1 : Int32) (S : HS) (r : Int32) (Z : HS) (h : f_X1_leastOf cs N a1 S = some (r, Z)) : Ctr Zp l yX1_leastOf cX1_leastOf 2 (some .int) rm_X1_leastOf D cy cs ad [.ref (ad 8 0), .int a1] S (some (.int r)) Z := by
  unfold f_X1_leastOf at h
  refine Ctr.of hA hZ RX1 (plainFor_of_name (by decide)) rfl [(0, .ref (ad 8 0)), (1, .int a1)] rfl (Nat.le_of_ble_eq_true rfl) (fun p e s m below meth c B => ?_)
  refine g_iload_n B dX1_leastOf_0 1 rfl rfl ?_
  refine g_bipush (v := (15 : Int32)) B dX1_leastOf_1 (by decide) ?_
  refine g_icmp_ne B 15 dX1_leastOf_3 (by decide) (fun q1 => ?_) (fun q1 => ?_)
  · have h := if_f h q1
    refine g_iconst (v := (0 : Int32)) B dX1_leastOf_15 (by decide) ?_
    obtain ⟨rfl, rfl⟩ := some_e h
    exact g_iret B dX1_leastOf_16
  · have h := if_t h q1
    refine g_aload_n B dX1_leastOf_6 0 rfl rfl ?_
    obtain ⟨m2, h⟩ := ck_e h
    refine gt_X1_4 B m2 kf_X1_22 dX1_leastOf_7 ?_
    refine g_iconst (v := (1 : Int32)) B dX1_leastOf_10 (by decide) ?_
    obtain ⟨m3, h⟩ := ck_e h
    obtain ⟨b4, h⟩ := ck_e h
    refine g_iald (n := 3) B m3 (fun _ => rfl) b4 dX1_leastOf_11 ?_
    refine g_goto B 16 dX1_leastOf_12 (by decide) ?_
    obtain ⟨rfl, rfl⟩ := some_e h
    exact g_iret B dX1_leastOf_16

def rm_X1_mostOf : Room := { frames := 0, cells := 0, slots := 0, locals := 0 }
def f_X1_mostOf (cs : List (Nat × Nat)) (N : Nat) (a1 : Int32) (S : HS) : Option (Int32 × HS) :=
  if a1 = (12 : Int32) then (
    some ((5 : Int32), S))
  else (
  if a1 = (13 : Int32) then (
    some ((3 : Int32), S))
  else (
  some ((51 : Int32), S)))
set_option maxHeartbeats 4000000 in
set_option maxRecDepth 100000 in
theorem c_X1_mostOf {l : Launch} {D : va_G} {cy : Nat → ClassId} {cs : List (Nat × Nat)} {ad : Nat → Nat → Nat} {Zp : State → Prop} (hA : AdOk cs ad) (hZ : ZOk cs ad Zp) (N : Nat) (a1 : Int32) (S : HS) (r : Int32) (Z : HS) (h : f_X1_mostOf cs N a1 S = some (r, Z)) : Ctr Zp l yX1_mostOf cX1_mostOf 1 (some .int) rm_X1_mostOf D cy cs ad [.int a1] S (some (.int r)) Z := by
  unfold f_X1_mostOf at h
  refine Ctr.of hA hZ RX1 (plainFor_of_name (by decide)) rfl [(0, .int a1)] rfl (Nat.le_of_ble_eq_true rfl) (fun p e s m below meth c B => ?_)
  refine g_iload_n B dX1_mostOf_0 0 rfl rfl ?_
  by_cases q1 : a1 = (12 : Int32)
  · have h := if_t h q1
    refine g_lookup (off := 27) B 28 dX1_mostOf_1 (by decide) (by rw [q1]; decide) (by decide) ?_
    refine g_iconst (v := (5 : Int32)) B dX1_mostOf_28 (by decide) ?_
    obtain ⟨rfl, rfl⟩ := some_e h
    exact g_iret B dX1_mostOf_29
  have h := if_f h q1
  by_cases q2 : a1 = (13 : Int32)
  · have h := if_t h q2
    refine g_lookup (off := 29) B 30 dX1_mostOf_1 (by decide) (by rw [q2]; decide) (by decide) ?_
    refine g_iconst (v := (3 : Int32)) B dX1_mostOf_30 (by decide) ?_
    obtain ⟨rfl, rfl⟩ := some_e h
    exact g_iret B dX1_mostOf_31
  have h := if_f h q2
  refine g_lookup (off := 31) B 32 dX1_mostOf_1 (by decide) (by show Op.lookupswitch.offset [(12, 27), (13, 29)] 31 _ = _; rw [lv_osw q1 (by decide), lv_osw q2 (by decide)]; rfl) (by decide) ?_
  refine g_bipush (v := (51 : Int32)) B dX1_mostOf_32 (by decide) ?_
  obtain ⟨rfl, rfl⟩ := some_e h
  exact g_iret B dX1_mostOf_34

def rm_X1_stopAt : Room := { frames := 0, cells := 0, slots := 0, locals := 0 }
def f_X1_stopAt (cs : List (Nat × Nat)) (N : Nat) (a1 : Int32) (S : HS) : Option (Int32 × HS) :=
  ck (mc cs 8 0) (
  lt_ (ui S 8 0 2 a1) (fun S2 =>
  ck (mc cs 9 0) (
  lt_ (ui S2 8 0 3 (gi S2 9 0 2)) (fun S5 =>
  some ((0 : Int32), S5)))))
set_option maxHeartbeats 4000000 in
set_option maxRecDepth 100000 in
theorem c_X1_stopAt {l : Launch} {D : va_G} {cy : Nat → ClassId} {cs : List (Nat × Nat)} {ad : Nat → Nat → Nat} {Zp : State → Prop} (hA : AdOk cs ad) (hZ : ZOk cs ad Zp) (N : Nat) (a1 : Int32) (S : HS) (r : Int32) (Z : HS) (h : f_X1_stopAt cs N a1 S = some (r, Z)) : Ctr Zp l yX1_stopAt cX1_stopAt 2 (some .boolean) rm_X1_stopAt D cy cs ad [.ref (ad 8 0), .int a1] S (some (.int r)) Z := by
  unfold f_X1_stopAt at h
  refine Ctr.of hA hZ RX1 (plainFor_of_name (by decide)) rfl [(0, .ref (ad 8 0)), (1, .int a1)] rfl (Nat.le_of_ble_eq_true rfl) (fun p e s m below meth c B => ?_)
  refine g_aload_n B dX1_stopAt_0 0 rfl rfl ?_
  refine g_iload_n B dX1_stopAt_1 1 rfl rfl ?_
  obtain ⟨m1, h⟩ := ck_e h
  obtain ⟨S2, e3, h⟩ := lt_e h
  refine pt_X1_2 B m1 kf_X1_29 e3 dX1_stopAt_2 ?_
  refine g_aload_n B dX1_stopAt_5 0 rfl rfl ?_
  refine g_aload_n B dX1_stopAt_6 0 rfl rfl ?_
  refine gt_X1_0 B m1 kf_X1_12 dX1_stopAt_7 ?_
  obtain ⟨m4, h⟩ := ck_e h
  refine gt_X7_2 B m4 kf_X1_103 dX1_stopAt_10 ?_
  obtain ⟨S5, e6, h⟩ := lt_e h
  refine pt_X1_3 B m1 kf_X1_18 e6 dX1_stopAt_13 ?_
  refine g_iconst (v := (0 : Int32)) B dX1_stopAt_16 (by decide) ?_
  obtain ⟨rfl, rfl⟩ := some_e h
  exact g_zret B (by decide) dX1_stopAt_17

def rm_X3_grossToMake : Room := { frames := 0, cells := 0, slots := 0, locals := 0 }
def f_X3_grossToMake_2 (cs : List (Nat × Nat)) (N : Nat)  : Nat → Nat → Int32 → Int32 → HS → Option (Int32 × HS)
  | 0, _, _, _, _ => none
  | n + 1, k0, v1, v2, S =>
    if (200 : Int32) ≤ v2 then (
      some ((200 : Int32), S))
    else (
      ck (mc cs 6 k0) (
      lt_ ((((v2 * (gi S 6 k0 2)) + (99 : Int32)) / (100 : Int32))) (fun x3 =>
      if (v2 - x3) < v1 then (
        lt_ (v2 + (1 : Int32)) (fun x6 =>
        f_X3_grossToMake_2 cs N n k0 v1 x6 S))
      else (
        some (v2, S)))))
set_option maxHeartbeats 4000000 in
set_option maxRecDepth 100000 in
theorem b_X3_grossToMake_2 {p : Program} {l : Launch} {e : Env} {s : State} {m : MethodId} {args : Array Value} {below : List Frame} {meth : Method} {c : Code} {D : va_G} {cy : Nat → ClassId} {cs : List (Nat × Nat)} {ad : Nat → Nat → Nat} {Zp : State → Prop} {r : Int32} {Z : HS} (B : Bd p s m args meth c D cy cs ad Zp cX3_grossToMake 4 RX3 (some .int)) (N : Nat)  : ∀ (n : Nat) (k0 : Nat) (v1 : Int32) (v2 : Int32) (S : HS), f_X3_grossToMake_2 cs N n k0 v1 v2 S = some (r, Z) → GW p l e rm_X3_grossToMake s m args below meth c (QM below args s D cy cs ad (some (.int r)) Z) D cy cs ad 0 0 4 2 [(0, .ref (ad 6 k0)), (1, .int v1), (2, .int v2)] [] S := by
  have hA := B.2.2.2.2.2.2.1
  have hZ := B.2.2.2.2.2.2.2.2.2.2
  intro n
  induction n with
  | zero => intro k0 v1 v2 S h; cases h
  | succ n ih =>
    intro k0 v1 v2 S h
    rw [f_X3_grossToMake_2] at h
    refine g_iload_n B dX3_grossToMake_2 2 rfl rfl ?_
    refine g_sipush (v := (200 : Int32)) B dX3_grossToMake_3 (by decide) ?_
    refine g_icmp_ge B 37 dX3_grossToMake_6 (by decide) (fun q1 => ?_) (fun q1 => ?_)
    · have h := if_t h q1
      refine g_sipush (v := (200 : Int32)) B dX3_grossToMake_37 (by decide) ?_
      obtain ⟨rfl, rfl⟩ := some_e h
      exact g_iret B dX3_grossToMake_40
    · have h := if_f h q1
      refine g_iload_n B dX3_grossToMake_9 2 rfl rfl ?_
      refine g_aload_n B dX3_grossToMake_10 0 rfl rfl ?_
      obtain ⟨m2, h⟩ := ck_e h
      refine gt_X3_2 B m2 kf_X3_18 dX3_grossToMake_11 ?_
      refine g_imul B dX3_grossToMake_14 ?_
      refine g_bipush (v := (99 : Int32)) B dX3_grossToMake_15 (by decide) ?_
      refine g_iadd B dX3_grossToMake_17 ?_
      refine g_bipush (v := (100 : Int32)) B dX3_grossToMake_18 (by decide) ?_
      refine g_idiv B dX3_grossToMake_20 (by decide) ?_
      obtain ⟨x3, e4, h⟩ := lt_e h
      refine g_topi e4 ?_
      refine g_istore_n (lv' := [(3, .int x3), (0, .ref (ad 6 k0)), (1, .int v1), (2, .int v2)]) B dX3_grossToMake_21 rfl (by decide) rfl ?_
      refine g_iload_n B dX3_grossToMake_22 3 rfl rfl ?_
      refine g_iload_n B dX3_grossToMake_23 0 rfl rfl ?_
      refine g_isub B dX3_grossToMake_24 ?_
      refine g_iload_n B dX3_grossToMake_25 2 rfl rfl ?_
      refine g_icmp_lt B 31 dX3_grossToMake_26 (by decide) (fun q5 => ?_) (fun q5 => ?_)
      · have h := if_t h q5
        obtain ⟨x6, e7, h⟩ := lt_e h
        refine g_iinc (v := x6) (lv' := [(2, .int x6), (3, .int x3), (0, .ref (ad 6 k0)), (1, .int v1)]) B dX3_grossToMake_31 (k := 3) rfl (by rw [e7]; rfl) (by decide) rfl ?_
        refine g_goto B 2 dX3_grossToMake_34 (by decide) ?_
        refine g_sub [2, 3, 0] rfl ?_
        exact ih _ _ _ _ h
      · have h := if_f h q5
        refine g_iload_n B dX3_grossToMake_29 3 rfl rfl ?_
        obtain ⟨rfl, rfl⟩ := some_e h
        exact g_iret B dX3_grossToMake_30
def f_X3_grossToMake (cs : List (Nat × Nat)) (N : Nat) (k : Nat) (a1 : Int32) (S : HS) : Option (Int32 × HS) :=
  f_X3_grossToMake_2 cs N N k a1 a1 S
set_option maxHeartbeats 4000000 in
set_option maxRecDepth 100000 in
theorem c_X3_grossToMake {l : Launch} {D : va_G} {cy : Nat → ClassId} {cs : List (Nat × Nat)} {ad : Nat → Nat → Nat} {Zp : State → Prop} (hA : AdOk cs ad) (hZ : ZOk cs ad Zp) (N : Nat) (k : Nat) (a1 : Int32) (S : HS) (r : Int32) (Z : HS) (h : f_X3_grossToMake cs N k a1 S = some (r, Z)) : Ctr Zp l yX3_grossToMake cX3_grossToMake 4 (some .int) rm_X3_grossToMake D cy cs ad [.ref (ad 6 k), .int a1] S (some (.int r)) Z := by
  unfold f_X3_grossToMake at h
  refine Ctr.of hA hZ RX3 (plainFor_of_name (by decide)) rfl [(0, .ref (ad 6 k)), (1, .int a1)] rfl (Nat.le_of_ble_eq_true rfl) (fun p e s m below meth c B => ?_)
  refine g_iload_n B dX3_grossToMake_0 1 rfl rfl ?_
  refine g_istore_n (lv' := [(2, .int a1), (0, .ref (ad 6 k)), (1, .int a1)]) B dX3_grossToMake_1 rfl (by decide) rfl ?_
  refine g_sub [1, 2, 0] rfl ?_
  exact b_X3_grossToMake_2 B N N _ _ _ _ h

def rm_X4_lineUp : Room := { frames := 0, cells := 0, slots := 0, locals := 0 }
def f_X4_lineUp_77 (cs : List (Nat × Nat)) (N : Nat) (K7 : Int32 → Int32 → HS → Option (Unit × HS)) (v2 : Int32) (v3 : Int32) (v4 : Int32) (S : HS) : Option (Unit × HS) :=
  ck (mc cs 12 0) (
  ck (mc cs 13 3) (
  ck (inb v4 7) (
  lt_ (ui S 13 3 v4.toNatClampNeg v3) (fun S4 =>
  lt_ (ui S4 12 0 6 ((gi S4 12 0 6) + (1 : Int32))) (fun S6 =>
  lt_ (v3 + (1 : Int32)) (fun x8 =>
  K7 v2 x8 S6))))))
set_option maxHeartbeats 4000000 in
set_option maxRecDepth 100000 in
theorem b_X4_lineUp_77 {p : Program} {l : Launch} {e : Env} {s : State} {m : MethodId} {args : Array Value} {below : List Frame} {meth : Method} {c : Code} {D : va_G} {cy : Nat → ClassId} {cs : List (Nat × Nat)} {ad : Nat → Nat → Nat} {Zp : State → Prop} {r : Unit} {Z : HS} (B : Bd p s m args meth c D cy cs ad Zp cX4_lineUp 5 RX4 none) (N : Nat) (K7 : Int32 → Int32 → HS → Option (Unit × HS)) (hK7 : ∀ (v2 : Int32) (v3 : Int32) (S : HS), K7 v2 v3 S = some (r, Z) → GW p l e rm_X4_lineUp s m args below meth c (QM below args s D cy cs ad (none) Z) D cy cs ad 0 0 5 7 [(0, .ref (ad 12 0)), (1, .ref (ad 3 0)), (2, .int v2), (3, .int v3)] [] S) (v2 : Int32) (v3 : Int32) (v4 : Int32) (S : HS) (h : f_X4_lineUp_77 cs N K7 v2 v3 v4 S = some (r, Z)) : GW p l e rm_X4_lineUp s m args below meth c (QM below args s D cy cs ad (none) Z) D cy cs ad 0 0 5 77 [(0, .ref (ad 12 0)), (1, .ref (ad 3 0)), (2, .int v2), (3, .int v3), (4, .int v4)] [] S := by
  have hA := B.2.2.2.2.2.2.1
  have hZ := B.2.2.2.2.2.2.2.2.2.2
  unfold f_X4_lineUp_77 at h
  refine g_aload_n B dX4_lineUp_77 0 rfl rfl ?_
  obtain ⟨m1, h⟩ := ck_e h
  refine gt_X4_5 B m1 kf_X4_21 dX4_lineUp_78 ?_
  refine g_iload B dX4_lineUp_81 4 rfl ?_
  refine g_iload_n B dX4_lineUp_83 3 rfl rfl ?_
  obtain ⟨m2, h⟩ := ck_e h
  obtain ⟨b3, h⟩ := ck_e h
  obtain ⟨S4, e5, h⟩ := lt_e h
  refine g_iast (n := 7) B m2 b3 (fun _ => rfl) e5 dX4_lineUp_84 ?_
  refine g_aload_n B dX4_lineUp_85 0 rfl rfl ?_
  refine g_dup B dX4_lineUp_86 rfl ?_
  refine gt_X4_6 B m1 kf_X4_60 dX4_lineUp_87 ?_
  refine g_iconst (v := (1 : Int32)) B dX4_lineUp_90 (by decide) ?_
  refine g_iadd B dX4_lineUp_91 ?_
  obtain ⟨S6, e7, h⟩ := lt_e h
  refine pt_X4_6 B m1 kf_X4_60 e7 dX4_lineUp_92 ?_
  obtain ⟨x8, e9, h⟩ := lt_e h
  refine g_iinc (v := x8) (lv' := [(3, .int x8), (0, .ref (ad 12 0)), (1, .ref (ad 3 0)), (2, .int v2), (4, .int v4)]) B dX4_lineUp_95 (k := 3) rfl (by rw [e9]; rfl) (by decide) rfl ?_
  refine g_goto B 7 dX4_lineUp_98 (by decide) ?_
  refine g_sub [1, 2, 3, 0] rfl ?_
  exact hK7 _ _ _ h
def f_X4_lineUp_27 (cs : List (Nat × Nat)) (N : Nat) (K7 : Int32 → Int32 → HS → Option (Unit × HS)) : Nat → Int32 → Int32 → Int32 → HS → Option (Unit × HS)
  | 0, _, _, _, _ => none
  | n + 1, v2, v3, v4, S =>
    if v4 ≤ 0 then (
      f_X4_lineUp_77 cs N K7 v2 v3 v4 S)
    else (
      ck (mc cs 12 0) (
      ck (mc cs 13 3) (
      ck (inb (v4 - (1 : Int32)) 7) (
      ck (mc cs 3 0) (
      ck (inb (gi S 13 3 (v4 - (1 : Int32)).toNatClampNeg) 7) (
      ck (mc cs 7 ((gi S 13 3 (v4 - (1 : Int32)).toNatClampNeg).toNatClampNeg)) (
      ck (inb v3 7) (
      ck (mc cs 7 (v3.toNatClampNeg)) (
      if (gi S 7 ((gi S 13 3 (v4 - (1 : Int32)).toNatClampNeg).toNatClampNeg) 3) ≤ (gi S 7 (v3.toNatClampNeg) 3) then (
        f_X4_lineUp_77 cs N K7 v2 v3 v4 S)
      else (
        ck (inb (v4 - (1 : Int32)) 7) (
        ck (inb v4 7) (
        lt_ (ui S 13 3 v4.toNatClampNeg (gi S 13 3 (v4 - (1 : Int32)).toNatClampNeg)) (fun S13 =>
        lt_ (v4 + (-1 : Int32)) (fun x15 =>
        f_X4_lineUp_27 cs N K7 n v2 v3 x15 S13))))))))))))))
set_option maxHeartbeats 4000000 in
set_option maxRecDepth 100000 in
theorem b_X4_lineUp_27 {p : Program} {l : Launch} {e : Env} {s : State} {m : MethodId} {args : Array Value} {below : List Frame} {meth : Method} {c : Code} {D : va_G} {cy : Nat → ClassId} {cs : List (Nat × Nat)} {ad : Nat → Nat → Nat} {Zp : State → Prop} {r : Unit} {Z : HS} (B : Bd p s m args meth c D cy cs ad Zp cX4_lineUp 5 RX4 none) (N : Nat) (K7 : Int32 → Int32 → HS → Option (Unit × HS)) (hK7 : ∀ (v2 : Int32) (v3 : Int32) (S : HS), K7 v2 v3 S = some (r, Z) → GW p l e rm_X4_lineUp s m args below meth c (QM below args s D cy cs ad (none) Z) D cy cs ad 0 0 5 7 [(0, .ref (ad 12 0)), (1, .ref (ad 3 0)), (2, .int v2), (3, .int v3)] [] S) : ∀ (n : Nat) (v2 : Int32) (v3 : Int32) (v4 : Int32) (S : HS), f_X4_lineUp_27 cs N K7 n v2 v3 v4 S = some (r, Z) → GW p l e rm_X4_lineUp s m args below meth c (QM below args s D cy cs ad (none) Z) D cy cs ad 0 0 5 27 [(0, .ref (ad 12 0)), (1, .ref (ad 3 0)), (2, .int v2), (3, .int v3), (4, .int v4)] [] S := by
  have hA := B.2.2.2.2.2.2.1
  have hZ := B.2.2.2.2.2.2.2.2.2.2
  intro n
  induction n with
  | zero => intro v2 v3 v4 S h; cases h
  | succ n ih =>
    intro v2 v3 v4 S h
    rw [f_X4_lineUp_27] at h
    refine g_iload B dX4_lineUp_27 4 rfl ?_
    refine g_if_le B 77 dX4_lineUp_29 (by decide) (fun q1 => ?_) (fun q1 => ?_)
    · have h := if_t h q1
      exact b_X4_lineUp_77 B N _ hK7 _ _ _ _ h
    · have h := if_f h q1
      refine g_aload_n B dX4_lineUp_32 1 rfl rfl ?_
      refine g_aload_n B dX4_lineUp_33 0 rfl rfl ?_
      obtain ⟨m2, h⟩ := ck_e h
      refine gt_X4_5 B m2 kf_X4_21 dX4_lineUp_34 ?_
      refine g_iload B dX4_lineUp_37 4 rfl ?_
      refine g_iconst (v := (1 : Int32)) B dX4_lineUp_39 (by decide) ?_
      refine g_isub B dX4_lineUp_40 ?_
      obtain ⟨m3, h⟩ := ck_e h
      obtain ⟨b4, h⟩ := ck_e h
      refine g_iald (n := 7) B m3 (fun _ => rfl) b4 dX4_lineUp_41 ?_
      obtain ⟨m5, h⟩ := ck_e h
      obtain ⟨b6, h⟩ := ck_e h
      refine g_aald (t0 := 6) (a := ad 7 ((gi S 13 3 (v4 - (1 : Int32)).toNatClampNeg).toNatClampNeg)) B rfl rfl m5 rfl b6 rfl dX4_lineUp_42 ?_
      obtain ⟨m7, h⟩ := ck_e h
      refine gt_X6_3 B m7 kf_X4_85 dX4_lineUp_43 ?_
      refine g_aload_n B dX4_lineUp_46 1 rfl rfl ?_
      refine g_iload_n B dX4_lineUp_47 3 rfl rfl ?_
      obtain ⟨b8, h⟩ := ck_e h
      refine g_aald (t0 := 6) (a := ad 7 (v3.toNatClampNeg)) B rfl rfl m5 rfl b8 rfl dX4_lineUp_48 ?_
      obtain ⟨m9, h⟩ := ck_e h
      refine gt_X6_3 B m9 kf_X4_85 dX4_lineUp_49 ?_
      refine g_icmp_le B 77 dX4_lineUp_52 (by decide) (fun q10 => ?_) (fun q10 => ?_)
      · have h := if_t h q10
        exact b_X4_lineUp_77 B N _ hK7 _ _ _ _ h
      · have h := if_f h q10
        refine g_aload_n B dX4_lineUp_55 0 rfl rfl ?_
        refine gt_X4_5 B m2 kf_X4_21 dX4_lineUp_56 ?_
        refine g_iload B dX4_lineUp_59 4 rfl ?_
        refine g_aload_n B dX4_lineUp_61 0 rfl rfl ?_
        refine gt_X4_5 B m2 kf_X4_21 dX4_lineUp_62 ?_
        refine g_iload B dX4_lineUp_65 4 rfl ?_
        refine g_iconst (v := (1 : Int32)) B dX4_lineUp_67 (by decide) ?_
        refine g_isub B dX4_lineUp_68 ?_
        obtain ⟨b11, h⟩ := ck_e h
        refine g_iald (n := 7) B m3 (fun _ => rfl) b11 dX4_lineUp_69 ?_
        obtain ⟨b12, h⟩ := ck_e h
        obtain ⟨S13, e14, h⟩ := lt_e h
        refine g_iast (n := 7) B m3 b12 (fun _ => rfl) e14 dX4_lineUp_70 ?_
        obtain ⟨x15, e16, h⟩ := lt_e h
        refine g_iinc (v := x15) (lv' := [(4, .int x15), (0, .ref (ad 12 0)), (1, .ref (ad 3 0)), (2, .int v2), (3, .int v3)]) B dX4_lineUp_71 (k := 4) rfl (by rw [e16]; rfl) (by decide) rfl ?_
        refine g_goto B 27 dX4_lineUp_74 (by decide) ?_
        refine g_sub [1, 2, 3, 4, 0] rfl ?_
        exact ih _ _ _ _ h
def f_X4_lineUp_7 (cs : List (Nat × Nat)) (N : Nat)  : Nat → Int32 → Int32 → HS → Option (Unit × HS)
  | 0, _, _, _ => none
  | n + 1, v2, v3, S =>
    if v2 ≤ v3 then (
      some ((), S))
    else (
      ck (mc cs 3 0) (
      ck (inb v3 7) (
      ck (mc cs 7 (v3.toNatClampNeg)) (
      if (gi S 7 (v3.toNatClampNeg) 8) = 0 then (
        ck (mc cs 12 0) (
        lt_ ((gi S 12 0 6)) (fun x9 =>
        f_X4_lineUp_27 cs N (f_X4_lineUp_7 cs N n) N v2 v3 x9 S)))
      else (
        lt_ (v3 + (1 : Int32)) (fun x6 =>
        f_X4_lineUp_7 cs N n v2 x6 S))))))
set_option maxHeartbeats 4000000 in
set_option maxRecDepth 100000 in
theorem b_X4_lineUp_7 {p : Program} {l : Launch} {e : Env} {s : State} {m : MethodId} {args : Array Value} {below : List Frame} {meth : Method} {c : Code} {D : va_G} {cy : Nat → ClassId} {cs : List (Nat × Nat)} {ad : Nat → Nat → Nat} {Zp : State → Prop} {r : Unit} {Z : HS} (B : Bd p s m args meth c D cy cs ad Zp cX4_lineUp 5 RX4 none) (N : Nat)  : ∀ (n : Nat) (v2 : Int32) (v3 : Int32) (S : HS), f_X4_lineUp_7 cs N n v2 v3 S = some (r, Z) → GW p l e rm_X4_lineUp s m args below meth c (QM below args s D cy cs ad (none) Z) D cy cs ad 0 0 5 7 [(0, .ref (ad 12 0)), (1, .ref (ad 3 0)), (2, .int v2), (3, .int v3)] [] S := by
  have hA := B.2.2.2.2.2.2.1
  have hZ := B.2.2.2.2.2.2.2.2.2.2
  intro n
  induction n with
  | zero => intro v2 v3 S h; cases h
  | succ n ih =>
    intro v2 v3 S h
    rw [f_X4_lineUp_7] at h
    refine g_iload_n B dX4_lineUp_7 3 rfl rfl ?_
    refine g_iload_n B dX4_lineUp_8 2 rfl rfl ?_
    refine g_icmp_ge B 101 dX4_lineUp_9 (by decide) (fun q1 => ?_) (fun q1 => ?_)
    · have h := if_t h q1
      obtain ⟨-, rfl⟩ := some_e h
      exact g_vret B dX4_lineUp_101
    · have h := if_f h q1
      refine g_aload_n B dX4_lineUp_12 1 rfl rfl ?_
      refine g_iload_n B dX4_lineUp_13 3 rfl rfl ?_
      obtain ⟨m2, h⟩ := ck_e h
      obtain ⟨b3, h⟩ := ck_e h
      refine g_aald (t0 := 6) (a := ad 7 (v3.toNatClampNeg)) B rfl rfl m2 rfl b3 rfl dX4_lineUp_14 ?_
      obtain ⟨m4, h⟩ := ck_e h
      refine gt_X6_8 B m4 kf_X4_80 dX4_lineUp_15 ?_
      refine g_if_ne B 95 dX4_lineUp_18 (by decide) (fun q5 => ?_) (fun q5 => ?_)
      · have h := if_f h q5
        obtain ⟨x6, e7, h⟩ := lt_e h
        refine g_iinc (v := x6) (lv' := [(3, .int x6), (0, .ref (ad 12 0)), (1, .ref (ad 3 0)), (2, .int v2)]) B dX4_lineUp_95 (k := 3) rfl (by rw [e7]; rfl) (by decide) rfl ?_
        refine g_goto B 7 dX4_lineUp_98 (by decide) ?_
        refine g_sub [1, 2, 3, 0] rfl ?_
        exact ih _ _ _ h
      · have h := if_t h q5
        refine g_aload_n B dX4_lineUp_21 0 rfl rfl ?_
        obtain ⟨m8, h⟩ := ck_e h
        refine gt_X4_6 B m8 kf_X4_60 dX4_lineUp_22 ?_
        obtain ⟨x9, e10, h⟩ := lt_e h
        refine g_topi e10 ?_
        refine g_istore (lv' := [(4, .int x9), (0, .ref (ad 12 0)), (1, .ref (ad 3 0)), (2, .int v2), (3, .int v3)]) B dX4_lineUp_25 (by decide) rfl ?_
        refine g_sub [1, 2, 3, 4, 0] rfl ?_
        exact b_X4_lineUp_27 B N _ ih N _ _ _ _ h
def f_X4_lineUp (cs : List (Nat × Nat)) (N : Nat) (a2 : Int32) (S : HS) : Option (Unit × HS) :=
  ck (mc cs 12 0) (
  lt_ (ui S 12 0 6 (0 : Int32)) (fun S2 =>
  f_X4_lineUp_7 cs N N a2 (0 : Int32) S2))
set_option maxHeartbeats 4000000 in
set_option maxRecDepth 100000 in
theorem c_X4_lineUp {l : Launch} {D : va_G} {cy : Nat → ClassId} {cs : List (Nat × Nat)} {ad : Nat → Nat → Nat} {Zp : State → Prop} (hA : AdOk cs ad) (hZ : ZOk cs ad Zp) (N : Nat) (a2 : Int32) (S : HS) (r : Unit) (Z : HS) (h : f_X4_lineUp cs N a2 S = some (r, Z)) : Ctr Zp l yX4_lineUp cX4_lineUp 5 none rm_X4_lineUp D cy cs ad [.ref (ad 12 0), .ref (ad 3 0), .int a2] S (none) Z := by
  unfold f_X4_lineUp at h
  refine Ctr.of hA hZ RX4 (plainFor_of_name (by decide)) rfl [(0, .ref (ad 12 0)), (1, .ref (ad 3 0)), (2, .int a2)] rfl (Nat.le_of_ble_eq_true rfl) (fun p e s m below meth c B => ?_)
  refine g_aload_n B dX4_lineUp_0 0 rfl rfl ?_
  refine g_iconst (v := (0 : Int32)) B dX4_lineUp_1 (by decide) ?_
  obtain ⟨m1, h⟩ := ck_e h
  obtain ⟨S2, e3, h⟩ := lt_e h
  refine pt_X4_6 B m1 kf_X4_60 e3 dX4_lineUp_2 ?_
  refine g_iconst (v := (0 : Int32)) B dX4_lineUp_5 (by decide) ?_
  refine g_istore_n (lv' := [(3, .int (0 : Int32)), (0, .ref (ad 12 0)), (1, .ref (ad 3 0)), (2, .int a2)]) B dX4_lineUp_6 rfl (by decide) rfl ?_
  refine g_sub [1, 2, 3, 0] rfl ?_
  exact b_X4_lineUp_7 B N N _ _ _ h

def rm_X4_startAt : Room := { frames := 0, cells := 0, slots := 0, locals := 0 }
def f_X4_startAt (cs : List (Nat × Nat)) (N : Nat) (a1 : Nat) (a2 : Int32) (S : HS) : Option (Unit × HS) :=
  ck (mc cs 12 0) (
  ck (mc cs 15 0) (
  ck (inb (0 : Int32) 128) (
  lt_ (ui S 15 0 (0 : Int32).toNatClampNeg (vp_nar .boolean (1 : Int32))) (fun S4 =>
  ck (mc cs 16 0) (
  ck (inb (0 : Int32) 128) (
  lt_ (ui S4 16 0 (0 : Int32).toNatClampNeg a2) (fun S8 =>
  ck (mc cs 4 a1) (
  ck (mc cs 5 a1) (
  ck (inb a2 52) (
  ck (mc cs 16 1) (
  ck (inb (0 : Int32) 128) (
  lt_ (ui S8 16 1 (0 : Int32).toNatClampNeg (gi S8 5 a1 a2.toNatClampNeg)) (fun S15 =>
  ck (mc cs 16 2) (
  ck (inb (0 : Int32) 128) (
  lt_ (ui S15 16 2 (0 : Int32).toNatClampNeg (0 : Int32)) (fun S19 =>
  ck (mc cs 17 0) (
  ck (inb (0 : Int32) 128) (
  lt_ (ul S19 17 0 (0 : Int32).toNatClampNeg (0 : Int64)) (fun S23 =>
  some ((), S23))))))))))))))))))))
set_option maxHeartbeats 4000000 in
set_option maxRecDepth 100000 in
theorem c_X4_startAt {l : Launch} {D : va_G} {cy : Nat → ClassId} {cs : List (Nat × Nat)} {ad : Nat → Nat → Nat} {Zp : State → Prop} (hA : AdOk cs ad) (hZ : ZOk cs ad Zp) (N : Nat) (a1 : Nat) (a2 : Int32) (S : HS) (r : Unit) (Z : HS) (h : f_X4_startAt cs N a1 a2 S = some (r, Z)) : Ctr Zp l yX4_startAt cX4_startAt 3 none rm_X4_startAt D cy cs ad [.ref (ad 12 0), .ref (ad 4 a1), .int a2] S (none) Z := by
  unfold f_X4_startAt at h
  refine Ctr.of hA hZ RX4 (plainFor_of_name (by decide)) rfl [(0, .ref (ad 12 0)), (1, .ref (ad 4 a1)), (2, .int a2)] rfl (Nat.le_of_ble_eq_true rfl) (fun p e s m below meth c B => ?_)
  refine g_aload_n B dX4_startAt_0 0 rfl rfl ?_
  obtain ⟨m1, h⟩ := ck_e h
  refine gt_X4_8 B m1 kf_X4_31 dX4_startAt_1 ?_
  refine g_iconst (v := (0 : Int32)) B dX4_startAt_4 (by decide) ?_
  refine g_iconst (v := (1 : Int32)) B dX4_startAt_5 (by decide) ?_
  obtain ⟨m2, h⟩ := ck_e h
  obtain ⟨b3, h⟩ := ck_e h
  obtain ⟨S4, e5, h⟩ := lt_e h
  refine g_zast (n := 128) B m2 b3 (fun _ => rfl) e5 dX4_startAt_6 ?_
  refine g_aload_n B dX4_startAt_7 0 rfl rfl ?_
  refine gt_X4_9 B m1 kf_X4_35 dX4_startAt_8 ?_
  refine g_iconst (v := (0 : Int32)) B dX4_startAt_11 (by decide) ?_
  refine g_iload_n B dX4_startAt_12 2 rfl rfl ?_
  obtain ⟨m6, h⟩ := ck_e h
  obtain ⟨b7, h⟩ := ck_e h
  obtain ⟨S8, e9, h⟩ := lt_e h
  refine g_iast (n := 128) B m6 b7 (fun _ => rfl) e9 dX4_startAt_13 ?_
  refine g_aload_n B dX4_startAt_14 0 rfl rfl ?_
  refine gt_X4_10 B m1 kf_X4_38 dX4_startAt_15 ?_
  refine g_iconst (v := (0 : Int32)) B dX4_startAt_18 (by decide) ?_
  refine g_aload_n B dX4_startAt_19 1 rfl rfl ?_
  obtain ⟨m10, h⟩ := ck_e h
  refine gt_X2_1 B m10 kf_X4_88 dX4_startAt_20 ?_
  refine g_iload_n B dX4_startAt_23 2 rfl rfl ?_
  obtain ⟨m11, h⟩ := ck_e h
  obtain ⟨b12, h⟩ := ck_e h
  refine g_iald (n := 52) B m11 (fun _ => rfl) b12 dX4_startAt_24 ?_
  obtain ⟨m13, h⟩ := ck_e h
  obtain ⟨b14, h⟩ := ck_e h
  obtain ⟨S15, e16, h⟩ := lt_e h
  refine g_iast (n := 128) B m13 b14 (fun _ => rfl) e16 dX4_startAt_25 ?_
  refine g_aload_n B dX4_startAt_26 0 rfl rfl ?_
  refine gt_X4_11 B m1 kf_X4_41 dX4_startAt_27 ?_
  refine g_iconst (v := (0 : Int32)) B dX4_startAt_30 (by decide) ?_
  refine g_iconst (v := (0 : Int32)) B dX4_startAt_31 (by decide) ?_
  obtain ⟨m17, h⟩ := ck_e h
  obtain ⟨b18, h⟩ := ck_e h
  obtain ⟨S19, e20, h⟩ := lt_e h
  refine g_iast (n := 128) B m17 b18 (fun _ => rfl) e20 dX4_startAt_32 ?_
  refine g_aload_n B dX4_startAt_33 0 rfl rfl ?_
  refine gt_X4_12 B m1 kf_X4_44 dX4_startAt_34 ?_
  refine g_iconst (v := (0 : Int32)) B dX4_startAt_37 (by decide) ?_
  refine g_lconst (v := (0 : Int64)) B dX4_startAt_38 rfl ?_
  obtain ⟨m21, h⟩ := ck_e h
  obtain ⟨b22, h⟩ := ck_e h
  obtain ⟨S23, e24, h⟩ := lt_e h
  refine g_last (n := 128) B m21 b22 (fun _ => rfl) e24 dX4_startAt_39 ?_
  obtain ⟨-, rfl⟩ := some_e h
  exact g_vret B dX4_startAt_40

def rm_X4_shareAlsoWith : Room := { frames := 0, cells := 0, slots := 0, locals := 0 }
def f_X4_shareAlsoWith_26 (cs : List (Nat × Nat)) (N : Nat) (K9 : Int32 → Int32 → HS → Option (Unit × HS)) : Nat → Int32 → Int32 → Int64 → Int32 → Int32 → HS → Option (Unit × HS)
  | 0, _, _, _, _, _, _ => none
  | n + 1, v1, v2, v3, v5, v6, S =>
    if v2 < v6 then (
      ck (mc cs 12 0) (
      ck (mc cs 17 1) (
      ck (inb v2 128) (
      lt_ (ul S 17 1 v2.toNatClampNeg v3) (fun S5 =>
      ck (mc cs 18 0) (
      ck (inb v1 4) (
      ck (mc cs 19 (v1.toNatClampNeg)) (
      ck (inb v2 128) (
      lt_ (ui S5 19 (v1.toNatClampNeg) v2.toNatClampNeg v5) (fun S11 =>
      lt_ (v2 + (-1 : Int32)) (fun x13 =>
      K9 v1 x13 S11)))))))))))
    else (
      if (v6 &&& v2) = v6 then (
        ck (mc cs 12 0) (
        ck (mc cs 15 0) (
        ck (inb v6 128) (
        if (gi S 15 0 v6.toNatClampNeg) = 0 then (
          lt_ (v6 + (1 : Int32)) (fun x22 =>
          f_X4_shareAlsoWith_26 cs N K9 n v1 v2 v3 v5 x22 S))
        else (
          ck (mc cs 17 0) (
          ck (inb v6 128) (
          ck (mc cs 17 1) (
          ck (inb (v2 ^^^ v6) 128) (
          if (lg_cmp ((gl S 17 0 v6.toNatClampNeg) + (gl S 17 1 (v2 ^^^ v6).toNatClampNeg)) v3) ≤ 0 then (
            lt_ (v6 + (1 : Int32)) (fun x29 =>
            f_X4_shareAlsoWith_26 cs N K9 n v1 v2 v3 v5 x29 S))
          else (
            ck (inb v6 128) (
            ck (inb (v2 ^^^ v6) 128) (
            lt_ (((gl S 17 0 v6.toNatClampNeg) + (gl S 17 1 (v2 ^^^ v6).toNatClampNeg))) (fun x33 =>
            lt_ (v6 + (1 : Int32)) (fun x35 =>
            f_X4_shareAlsoWith_26 cs N K9 n v1 v2 x33 v6 x35 S))))))))))))))
      else (
        lt_ (v6 + (1 : Int32)) (fun x16 =>
        f_X4_shareAlsoWith_26 cs N K9 n v1 v2 v3 v5 x16 S)))
set_option maxHeartbeats 4000000 in
set_option maxRecDepth 100000 in
theorem b_X4_shareAlsoWith_26 {p : Program} {l : Launch} {e : Env} {s : State} {m : MethodId} {args : Array Value} {below : List Frame} {meth : Method} {c : Code} {D : va_G} {cy : Nat → ClassId} {cs : List (Nat × Nat)} {ad : Nat → Nat → Nat} {Zp : State → Prop} {r : Unit} {Z : HS} (B : Bd p s m args meth c D cy cs ad Zp cX4_shareAlsoWith 7 RX4 none) (N : Nat) (K9 : Int32 → Int32 → HS → Option (Unit × HS)) (hK9 : ∀ (v1 : Int32) (v2 : Int32) (S : HS), K9 v1 v2 S = some (r, Z) → GW p l e rm_X4_shareAlsoWith s m args below meth c (QM below args s D cy cs ad (none) Z) D cy cs ad 0 0 7 9 [(0, .ref (ad 12 0)), (1, .int v1), (2, .int v2)] [] S) : ∀ (n : Nat) (v1 : Int32) (v2 : Int32) (v3 : Int64) (v5 : Int32) (v6 : Int32) (S : HS), f_X4_shareAlsoWith_26 cs N K9 n v1 v2 v3 v5 v6 S = some (r, Z) → GW p l e rm_X4_shareAlsoWith s m args below meth c (QM below args s D cy cs ad (none) Z) D cy cs ad 0 0 7 26 [(0, .ref (ad 12 0)), (1, .int v1), (2, .int v2), (3, .long v3), (5, .int v5), (6, .int v6)] [] S := by
  have hA := B.2.2.2.2.2.2.1
  have hZ := B.2.2.2.2.2.2.2.2.2.2
  intro n
  induction n with
  | zero => intro v1 v2 v3 v5 v6 S h; cases h
  | succ n ih =>
    intro v1 v2 v3 v5 v6 S h
    rw [f_X4_shareAlsoWith_26] at h
    refine g_iload B dX4_shareAlsoWith_26 5 rfl ?_
    refine g_iload_n B dX4_shareAlsoWith_28 2 rfl rfl ?_
    refine g_icmp_gt B 101 dX4_shareAlsoWith_29 (by decide) (fun q1 => ?_) (fun q1 => ?_)
    · have h := if_t h q1
      refine g_aload_n B dX4_shareAlsoWith_101 0 rfl rfl ?_
      obtain ⟨m2, h⟩ := ck_e h
      refine gt_X4_13 B m2 kf_X4_48 dX4_shareAlsoWith_102 ?_
      refine g_iload_n B dX4_shareAlsoWith_105 2 rfl rfl ?_
      refine g_lload_n B dX4_shareAlsoWith_106 3 rfl rfl ?_
      obtain ⟨m3, h⟩ := ck_e h
      obtain ⟨b4, h⟩ := ck_e h
      obtain ⟨S5, e6, h⟩ := lt_e h
      refine g_last (n := 128) B m3 b4 (fun _ => rfl) e6 dX4_shareAlsoWith_107 ?_
      refine g_aload_n B dX4_shareAlsoWith_108 0 rfl rfl ?_
      refine gt_X4_14 B m2 kf_X4_53 dX4_shareAlsoWith_109 ?_
      refine g_iload_n B dX4_shareAlsoWith_112 1 rfl rfl ?_
      obtain ⟨m7, h⟩ := ck_e h
      obtain ⟨b8, h⟩ := ck_e h
      refine g_aald (t0 := 7) (a := ad 19 (v1.toNatClampNeg)) B rfl rfl m7 rfl b8 rfl dX4_shareAlsoWith_113 ?_
      refine g_iload_n B dX4_shareAlsoWith_114 2 rfl rfl ?_
      refine g_iload B dX4_shareAlsoWith_115 4 rfl ?_
      obtain ⟨m9, h⟩ := ck_e h
      obtain ⟨b10, h⟩ := ck_e h
      obtain ⟨S11, e12, h⟩ := lt_e h
      refine g_iast (n := 128) B m9 b10 (fun _ => rfl) e12 dX4_shareAlsoWith_117 ?_
      obtain ⟨x13, e14, h⟩ := lt_e h
      refine g_iinc (v := x13) (lv' := [(2, .int x13), (0, .ref (ad 12 0)), (1, .int v1), (3, .long v3), (5, .int v5), (6, .int v6)]) B dX4_shareAlsoWith_118 (k := 2) rfl (by rw [e14]; rfl) (by decide) rfl ?_
      refine g_goto B 9 dX4_shareAlsoWith_121 (by decide) ?_
      refine g_sub [1, 2, 0] rfl ?_
      exact hK9 _ _ _ h
    · have h := if_f h q1
      refine g_iload B dX4_shareAlsoWith_32 5 rfl ?_
      refine g_iload_n B dX4_shareAlsoWith_34 2 rfl rfl ?_
      refine g_iand B dX4_shareAlsoWith_35 ?_
      refine g_iload B dX4_shareAlsoWith_36 5 rfl ?_
      refine g_icmp_ne B 95 dX4_shareAlsoWith_38 (by decide) (fun q15 => ?_) (fun q15 => ?_)
      · have h := if_f h q15
        obtain ⟨x16, e17, h⟩ := lt_e h
        refine g_iinc (v := x16) (lv' := [(6, .int x16), (0, .ref (ad 12 0)), (1, .int v1), (2, .int v2), (3, .long v3), (5, .int v5)]) B dX4_shareAlsoWith_95 (k := 5) rfl (by rw [e17]; rfl) (by decide) rfl ?_
        refine g_goto B 26 dX4_shareAlsoWith_98 (by decide) ?_
        refine g_sub [1, 2, 3, 4, 5, 0] rfl ?_
        exact ih _ _ _ _ _ _ h
      · have h := if_t h q15
        refine g_aload_n B dX4_shareAlsoWith_41 0 rfl rfl ?_
        obtain ⟨m18, h⟩ := ck_e h
        refine gt_X4_8 B m18 kf_X4_31 dX4_shareAlsoWith_42 ?_
        refine g_iload B dX4_shareAlsoWith_45 5 rfl ?_
        obtain ⟨m19, h⟩ := ck_e h
        obtain ⟨b20, h⟩ := ck_e h
        refine g_zald (n := 128) B m19 (fun _ => rfl) b20 dX4_shareAlsoWith_47 ?_
        refine g_if_eq B 95 dX4_shareAlsoWith_48 (by decide) (fun q21 => ?_) (fun q21 => ?_)
        · have h := if_t h q21
          obtain ⟨x22, e23, h⟩ := lt_e h
          refine g_iinc (v := x22) (lv' := [(6, .int x22), (0, .ref (ad 12 0)), (1, .int v1), (2, .int v2), (3, .long v3), (5, .int v5)]) B dX4_shareAlsoWith_95 (k := 5) rfl (by rw [e23]; rfl) (by decide) rfl ?_
          refine g_goto B 26 dX4_shareAlsoWith_98 (by decide) ?_
          refine g_sub [1, 2, 3, 4, 5, 0] rfl ?_
          exact ih _ _ _ _ _ _ h
        · have h := if_f h q21
          refine g_aload_n B dX4_shareAlsoWith_51 0 rfl rfl ?_
          refine gt_X4_12 B m18 kf_X4_44 dX4_shareAlsoWith_52 ?_
          refine g_iload B dX4_shareAlsoWith_55 5 rfl ?_
          obtain ⟨m24, h⟩ := ck_e h
          obtain ⟨b25, h⟩ := ck_e h
          refine g_lald (n := 128) B m24 (fun _ => rfl) b25 dX4_shareAlsoWith_57 ?_
          refine g_aload_n B dX4_shareAlsoWith_58 0 rfl rfl ?_
          refine gt_X4_13 B m18 kf_X4_48 dX4_shareAlsoWith_59 ?_
          refine g_iload_n B dX4_shareAlsoWith_62 2 rfl rfl ?_
          refine g_iload B dX4_shareAlsoWith_63 5 rfl ?_
          refine g_ixor B dX4_shareAlsoWith_65 ?_
          obtain ⟨m26, h⟩ := ck_e h
          obtain ⟨b27, h⟩ := ck_e h
          refine g_lald (n := 128) B m26 (fun _ => rfl) b27 dX4_shareAlsoWith_66 ?_
          refine g_ladd B dX4_shareAlsoWith_67 ?_
          refine g_lload_n B dX4_shareAlsoWith_68 3 rfl rfl ?_
          refine g_lcmp B dX4_shareAlsoWith_69 ?_
          refine g_if_le B 95 dX4_shareAlsoWith_70 (by decide) (fun q28 => ?_) (fun q28 => ?_)
          · have h := if_t h q28
            obtain ⟨x29, e30, h⟩ := lt_e h
            refine g_iinc (v := x29) (lv' := [(6, .int x29), (0, .ref (ad 12 0)), (1, .int v1), (2, .int v2), (3, .long v3), (5, .int v5)]) B dX4_shareAlsoWith_95 (k := 5) rfl (by rw [e30]; rfl) (by decide) rfl ?_
            refine g_goto B 26 dX4_shareAlsoWith_98 (by decide) ?_
            refine g_sub [1, 2, 3, 4, 5, 0] rfl ?_
            exact ih _ _ _ _ _ _ h
          · have h := if_f h q28
            refine g_aload_n B dX4_shareAlsoWith_73 0 rfl rfl ?_
            refine gt_X4_12 B m18 kf_X4_44 dX4_shareAlsoWith_74 ?_
            refine g_iload B dX4_shareAlsoWith_77 5 rfl ?_
            obtain ⟨b31, h⟩ := ck_e h
            refine g_lald (n := 128) B m24 (fun _ => rfl) b31 dX4_shareAlsoWith_79 ?_
            refine g_aload_n B dX4_shareAlsoWith_80 0 rfl rfl ?_
            refine gt_X4_13 B m18 kf_X4_48 dX4_shareAlsoWith_81 ?_
            refine g_iload_n B dX4_shareAlsoWith_84 2 rfl rfl ?_
            refine g_iload B dX4_shareAlsoWith_85 5 rfl ?_
            refine g_ixor B dX4_shareAlsoWith_87 ?_
            obtain ⟨b32, h⟩ := ck_e h
            refine g_lald (n := 128) B m26 (fun _ => rfl) b32 dX4_shareAlsoWith_88 ?_
            refine g_ladd B dX4_shareAlsoWith_89 ?_
            obtain ⟨x33, e34, h⟩ := lt_e h
            refine g_topl e34 ?_
            refine g_lstore_n (lv' := [(3, .long x33), (0, .ref (ad 12 0)), (1, .int v1), (2, .int v2), (5, .int v5), (6, .int v6)]) B dX4_shareAlsoWith_90 rfl (by decide) rfl ?_
            refine g_iload B dX4_shareAlsoWith_91 5 rfl ?_
            refine g_istore (lv' := [(5, .int v6), (3, .long x33), (0, .ref (ad 12 0)), (1, .int v1), (2, .int v2), (6, .int v6)]) B dX4_shareAlsoWith_93 (by decide) rfl ?_
            obtain ⟨x35, e36, h⟩ := lt_e h
            refine g_iinc (v := x35) (lv' := [(6, .int x35), (5, .int v6), (3, .long x33), (0, .ref (ad 12 0)), (1, .int v1), (2, .int v2)]) B dX4_shareAlsoWith_95 (k := 5) rfl (by rw [e36]; rfl) (by decide) rfl ?_
            refine g_goto B 26 dX4_shareAlsoWith_98 (by decide) ?_
            refine g_sub [3, 4, 5, 2, 1, 0] rfl ?_
            exact ih _ _ _ _ _ _ h
def f_X4_shareAlsoWith_9 (cs : List (Nat × Nat)) (N : Nat)  : Nat → Int32 → Int32 → HS → Option (Unit × HS)
  | 0, _, _, _ => none
  | n + 1, v1, v2, S =>
    if v2 < 0 then (
      some ((), S))
    else (
      ck (mc cs 12 0) (
      ck (mc cs 17 1) (
      ck (inb v2 128) (
      lt_ ((gl S 17 1 v2.toNatClampNeg)) (fun x5 =>
      f_X4_shareAlsoWith_26 cs N (f_X4_shareAlsoWith_9 cs N n) N v1 v2 x5 (0 : Int32) (1 : Int32) S)))))
set_option maxHeartbeats 4000000 in
set_option maxRecDepth 100000 in
theorem b_X4_shareAlsoWith_9 {p : Program} {l : Launch} {e : Env} {s : State} {m : MethodId} {args : Array Value} {below : List Frame} {meth : Method} {c : Code} {D : va_G} {cy : Nat → ClassId} {cs : List (Nat × Nat)} {ad : Nat → Nat → Nat} {Zp : State → Prop} {r : Unit} {Z : HS} (B : Bd p s m args meth c D cy cs ad Zp cX4_shareAlsoWith 7 RX4 none) (N : Nat)  : ∀ (n : Nat) (v1 : Int32) (v2 : Int32) (S : HS), f_X4_shareAlsoWith_9 cs N n v1 v2 S = some (r, Z) → GW p l e rm_X4_shareAlsoWith s m args below meth c (QM below args s D cy cs ad (none) Z) D cy cs ad 0 0 7 9 [(0, .ref (ad 12 0)), (1, .int v1), (2, .int v2)] [] S := by
  have hA := B.2.2.2.2.2.2.1
  have hZ := B.2.2.2.2.2.2.2.2.2.2
  intro n
  induction n with
  | zero => intro v1 v2 S h; cases h
  | succ n ih =>
    intro v1 v2 S h
    rw [f_X4_shareAlsoWith_9] at h
    refine g_iload_n B dX4_shareAlsoWith_9 2 rfl rfl ?_
    refine g_if_lt B 124 dX4_shareAlsoWith_10 (by decide) (fun q1 => ?_) (fun q1 => ?_)
    · have h := if_t h q1
      obtain ⟨-, rfl⟩ := some_e h
      exact g_vret B dX4_shareAlsoWith_124
    · have h := if_f h q1
      refine g_aload_n B dX4_shareAlsoWith_13 0 rfl rfl ?_
      obtain ⟨m2, h⟩ := ck_e h
      refine gt_X4_13 B m2 kf_X4_48 dX4_shareAlsoWith_14 ?_
      refine g_iload_n B dX4_shareAlsoWith_17 2 rfl rfl ?_
      obtain ⟨m3, h⟩ := ck_e h
      obtain ⟨b4, h⟩ := ck_e h
      refine g_lald (n := 128) B m3 (fun _ => rfl) b4 dX4_shareAlsoWith_18 ?_
      obtain ⟨x5, e6, h⟩ := lt_e h
      refine g_topl e6 ?_
      refine g_lstore_n (lv' := [(3, .long x5), (0, .ref (ad 12 0)), (1, .int v1), (2, .int v2)]) B dX4_shareAlsoWith_19 rfl (by decide) rfl ?_
      refine g_iconst (v := (0 : Int32)) B dX4_shareAlsoWith_20 (by decide) ?_
      refine g_istore (lv' := [(5, .int (0 : Int32)), (3, .long x5), (0, .ref (ad 12 0)), (1, .int v1), (2, .int v2)]) B dX4_shareAlsoWith_21 (by decide) rfl ?_
      refine g_iconst (v := (1 : Int32)) B dX4_shareAlsoWith_23 (by decide) ?_
      refine g_istore (lv' := [(6, .int (1 : Int32)), (5, .int (0 : Int32)), (3, .long x5), (0, .ref (ad 12 0)), (1, .int v1), (2, .int v2)]) B dX4_shareAlsoWith_24 (by decide) rfl ?_
      refine g_sub [3, 4, 5, 2, 1, 0] rfl ?_
      exact b_X4_shareAlsoWith_26 B N _ ih N _ _ _ _ _ _ h
def f_X4_shareAlsoWith (cs : List (Nat × Nat)) (N : Nat) (a1 : Int32) (S : HS) : Option (Unit × HS) :=
  ck (mc cs 12 0) (
  lt_ ((((1 : Int32) <<< ((gi S 12 0 6) &&& 31)) - (1 : Int32))) (fun x2 =>
  f_X4_shareAlsoWith_9 cs N N a1 x2 S))
set_option maxHeartbeats 4000000 in
set_option maxRecDepth 100000 in
theorem c_X4_shareAlsoWith {l : Launch} {D : va_G} {cy : Nat → ClassId} {cs : List (Nat × Nat)} {ad : Nat → Nat → Nat} {Zp : State → Prop} (hA : AdOk cs ad) (hZ : ZOk cs ad Zp) (N : Nat) (a1 : Int32) (S : HS) (r : Unit) (Z : HS) (h : f_X4_shareAlsoWith cs N a1 S = some (r, Z)) : Ctr Zp l yX4_shareAlsoWith cX4_shareAlsoWith 7 none rm_X4_shareAlsoWith D cy cs ad [.ref (ad 12 0), .int a1] S (none) Z := by
  unfold f_X4_shareAlsoWith at h
  refine Ctr.of hA hZ RX4 (plainFor_of_name (by decide)) rfl [(0, .ref (ad 12 0)), (1, .int a1)] rfl (Nat.le_of_ble_eq_true rfl) (fun p e s m below meth c B => ?_)
  refine g_iconst (v := (1 : Int32)) B dX4_shareAlsoWith_0 (by decide) ?_
  refine g_aload_n B dX4_shareAlsoWith_1 0 rfl rfl ?_
  obtain ⟨m1, h⟩ := ck_e h
  refine gt_X4_6 B m1 kf_X4_60 dX4_shareAlsoWith_2 ?_
  refine g_ishl B dX4_shareAlsoWith_5 ?_
  refine g_iconst (v := (1 : Int32)) B dX4_shareAlsoWith_6 (by decide) ?_
  refine g_isub B dX4_shareAlsoWith_7 ?_
  obtain ⟨x2, e3, h⟩ := lt_e h
  refine g_topi e3 ?_
  refine g_istore_n (lv' := [(2, .int x2), (0, .ref (ad 12 0)), (1, .int a1)]) B dX4_shareAlsoWith_8 rfl (by decide) rfl ?_
  refine g_sub [1, 2, 0] rfl ?_
  exact b_X4_shareAlsoWith_9 B N N _ _ _ h

def rm_X5_give : Room := { frames := 0, cells := 0, slots := 0, locals := 0 }
def f_X5_give_9 (cs : List (Nat × Nat)) (N : Nat)  : Nat → Nat → Int32 → Int32 → HS → Option (Unit × HS)
  | 0, _, _, _, _ => none
  | n + 1, k0, v1, v3, S =>
    if (4 : Int32) ≤ v3 then (
      some ((), S))
    else (
      ck (mc cs 20 k0) (
      ck (mc cs 22 k0) (
      ck (inb v1 6) (
      ck (mc cs 23 (6 * k0 + v1.toNatClampNeg)) (
      ck (inb v3 4) (
      lt_ (ui S 23 (6 * k0 + v1.toNatClampNeg) v3.toNatClampNeg (-1 : Int32)) (fun S7 =>
      lt_ (v3 + (1 : Int32)) (fun x9 =>
      f_X5_give_9 cs N n k0 v1 x9 S7))))))))
set_option maxHeartbeats 4000000 in
set_option maxRecDepth 100000 in
theorem b_X5_give_9 {p : Program} {l : Launch} {e : Env} {s : State} {m : MethodId} {args : Array Value} {below : List Frame} {meth : Method} {c : Code} {D : va_G} {cy : Nat → ClassId} {cs : List (Nat × Nat)} {ad : Nat → Nat → Nat} {Zp : State → Prop} {r : Unit} {Z : HS} (B : Bd p s m args meth c D cy cs ad Zp cX5_give 4 RX5 none) (N : Nat)  : ∀ (n : Nat) (k0 : Nat) (v1 : Int32) (v3 : Int32) (S : HS), f_X5_give_9 cs N n k0 v1 v3 S = some (r, Z) → GW p l e rm_X5_give s m args below meth c (QM below args s D cy cs ad (none) Z) D cy cs ad 0 0 4 9 [(0, .ref (ad 20 k0)), (1, .int v1), (3, .int v3)] [] S := by
  have hA := B.2.2.2.2.2.2.1
  have hZ := B.2.2.2.2.2.2.2.2.2.2
  intro n
  induction n with
  | zero => intro k0 v1 v3 S h; cases h
  | succ n ih =>
    intro k0 v1 v3 S h
    rw [f_X5_give_9] at h
    refine g_iload_n B dX5_give_9 2 rfl rfl ?_
    refine g_iconst (v := (4 : Int32)) B dX5_give_10 (by decide) ?_
    refine g_icmp_ge B 29 dX5_give_11 (by decide) (fun q1 => ?_) (fun q1 => ?_)
    · have h := if_t h q1
      obtain ⟨-, rfl⟩ := some_e h
      exact g_vret B dX5_give_29
    · have h := if_f h q1
      refine g_aload_n B dX5_give_14 0 rfl rfl ?_
      obtain ⟨m2, h⟩ := ck_e h
      refine gt_X5_1 B m2 kf_X5_17 dX5_give_15 ?_
      refine g_iload_n B dX5_give_18 1 rfl rfl ?_
      obtain ⟨m3, h⟩ := ck_e h
      obtain ⟨b4, h⟩ := ck_e h
      refine g_aald (t0 := 7) (a := ad 23 (6 * k0 + v1.toNatClampNeg)) B rfl rfl m3 rfl b4 rfl dX5_give_19 ?_
      refine g_iload_n B dX5_give_20 2 rfl rfl ?_
      refine g_iconst (v := (-1 : Int32)) B dX5_give_21 (by decide) ?_
      obtain ⟨m5, h⟩ := ck_e h
      obtain ⟨b6, h⟩ := ck_e h
      obtain ⟨S7, e8, h⟩ := lt_e h
      refine g_iast (n := 4) B m5 b6 (fun _ => rfl) e8 dX5_give_22 ?_
      obtain ⟨x9, e10, h⟩ := lt_e h
      refine g_iinc (v := x9) (lv' := [(3, .int x9), (0, .ref (ad 20 k0)), (1, .int v1)]) B dX5_give_23 (k := 2) rfl (by rw [e10]; rfl) (by decide) rfl ?_
      refine g_goto B 9 dX5_give_26 (by decide) ?_
      refine g_sub [1, 2, 0] rfl ?_
      exact ih _ _ _ _ h
def f_X5_give (cs : List (Nat × Nat)) (N : Nat) (k : Nat) (a1 : Int32) (a2 : Int32) (S : HS) : Option (Unit × HS) :=
  ck (mc cs 20 k) (
  ck (mc cs 21 k) (
  ck (inb a1 6) (
  lt_ (ui S 21 k a1.toNatClampNeg a2) (fun S4 =>
  f_X5_give_9 cs N N k a1 (0 : Int32) S4))))
set_option maxHeartbeats 4000000 in
set_option maxRecDepth 100000 in
theorem c_X5_give {l : Launch} {D : va_G} {cy : Nat → ClassId} {cs : List (Nat × Nat)} {ad : Nat → Nat → Nat} {Zp : State → Prop} (hA : AdOk cs ad) (hZ : ZOk cs ad Zp) (N : Nat) (k : Nat) (a1 : Int32) (a2 : Int32) (S : HS) (r : Unit) (Z : HS) (h : f_X5_give cs N k a1 a2 S = some (r, Z)) : Ctr Zp l yX5_give cX5_give 4 none rm_X5_give D cy cs ad [.ref (ad 20 k), .int a1, .int a2] S (none) Z := by
  unfold f_X5_give at h
  refine Ctr.of hA hZ RX5 (plainFor_of_name (by decide)) rfl [(0, .ref (ad 20 k)), (1, .int a1), (2, .int a2)] rfl (Nat.le_of_ble_eq_true rfl) (fun p e s m below meth c B => ?_)
  refine g_aload_n B dX5_give_0 0 rfl rfl ?_
  obtain ⟨m1, h⟩ := ck_e h
  refine gt_X5_0 B m1 kf_X5_9 dX5_give_1 ?_
  refine g_iload_n B dX5_give_4 1 rfl rfl ?_
  refine g_iload_n B dX5_give_5 2 rfl rfl ?_
  obtain ⟨m2, h⟩ := ck_e h
  obtain ⟨b3, h⟩ := ck_e h
  obtain ⟨S4, e5, h⟩ := lt_e h
  refine g_iast (n := 6) B m2 b3 (fun _ => rfl) e5 dX5_give_6 ?_
  refine g_iconst (v := (0 : Int32)) B dX5_give_7 (by decide) ?_
  refine g_istore_n (lv' := [(3, .int (0 : Int32)), (0, .ref (ad 20 k)), (1, .int a1), (2, .int a2)]) B dX5_give_8 rfl (by decide) rfl ?_
  refine g_sub [1, 2, 0] rfl ?_
  exact b_X5_give_9 B N N _ _ _ _ h

def rm_X5_share : Room := { frames := 1, cells := 0, slots := 0, locals := 21 }
def f_X5_share (cs : List (Nat × Nat)) (N : Nat) (k : Nat) (a1 : Int32) (a2 : Int32) (a3 : Int32) (S : HS) : Option (Unit × HS) :=
  ck (mc cs 20 k) (
  ck (mc cs 22 k) (
  ck (inb a1 6) (
  ck (inb a1 6) (
  ck (mc cs 23 (6 * k + a1.toNatClampNeg)) (
  ck (inb a2 4) (
  ob (f_J9_max_7cf53 cs N (gi S 23 (6 * k + a1.toNatClampNeg) a2.toNatClampNeg) a3 S) (fun r7 S8 =>
  ck (inb a2 4) (
  lt_ (ui S8 23 (6 * k + a1.toNatClampNeg) a2.toNatClampNeg r7) (fun S11 =>
  some ((), S11))))))))))
set_option maxHeartbeats 4000000 in
set_option maxRecDepth 100000 in
theorem c_X5_share {l : Launch} {D : va_G} {cy : Nat → ClassId} {cs : List (Nat × Nat)} {ad : Nat → Nat → Nat} {Zp : State → Prop} (hA : AdOk cs ad) (hZ : ZOk cs ad Zp) (N : Nat) (k : Nat) (a1 : Int32) (a2 : Int32) (a3 : Int32) (S : HS) (r : Unit) (Z : HS) (h : f_X5_share cs N k a1 a2 a3 S = some (r, Z)) : Ctr Zp l yX5_share cX5_share 4 none rm_X5_share D cy cs ad [.ref (ad 20 k), .int a1, .int a2, .int a3] S (none) Z := by
  unfold f_X5_share at h
  refine Ctr.of hA hZ RX5 (plainFor_of_name (by decide)) rfl [(0, .ref (ad 20 k)), (1, .int a1), (2, .int a2), (3, .int a3)] rfl (Nat.le_of_ble_eq_true rfl) (fun p e s m below meth c B => ?_)
  refine g_aload_n B dX5_share_0 0 rfl rfl ?_
  obtain ⟨m1, h⟩ := ck_e h
  refine gt_X5_1 B m1 kf_X5_17 dX5_share_1 ?_
  refine g_iload_n B dX5_share_4 1 rfl rfl ?_
  obtain ⟨m2, h⟩ := ck_e h
  obtain ⟨b3, h⟩ := ck_e h
  refine g_aald (t0 := 7) (a := ad 23 (6 * k + a1.toNatClampNeg)) B rfl rfl m2 rfl b3 rfl dX5_share_5 ?_
  refine g_iload_n B dX5_share_6 2 rfl rfl ?_
  refine g_aload_n B dX5_share_7 0 rfl rfl ?_
  refine gt_X5_1 B m1 kf_X5_17 dX5_share_8 ?_
  refine g_iload_n B dX5_share_11 1 rfl rfl ?_
  obtain ⟨b4, h⟩ := ck_e h
  refine g_aald (t0 := 7) (a := ad 23 (6 * k + a1.toNatClampNeg)) B rfl rfl m2 rfl b4 rfl dX5_share_12 ?_
  refine g_iload_n B dX5_share_13 2 rfl rfl ?_
  obtain ⟨m5, h⟩ := ck_e h
  obtain ⟨b6, h⟩ := ck_e h
  refine g_iald (n := 4) B m5 (fun _ => rfl) b6 dX5_share_14 ?_
  refine g_iload_n B dX5_share_15 3 rfl rfl ?_
  obtain ⟨r7, S8, e9, h⟩ := ob_e h
  refine g_csi (rest := [.int a2, .ref (ad 23 (6 * k + a1.toNatClampNeg))]) B (c_J9_max_7cf53 hA hZ N _ _ _ _ _ e9) mf_J9_max_7cf53 km_X5_31 ⟨by decide, by decide⟩ ⟨rfl, rfl⟩ rfl rfl (Nat.le_of_ble_eq_true rfl) ⟨Nat.zero_le _, Nat.zero_le _⟩ dX5_share_16 ?_
  obtain ⟨b10, h⟩ := ck_e h
  obtain ⟨S11, e12, h⟩ := lt_e h
  refine g_iast (n := 4) B m5 b10 (fun _ => rfl) e12 dX5_share_19 ?_
  obtain ⟨-, rfl⟩ := some_e h
  exact g_vret B dX5_share_20

def rm_X5_shut : Room := { frames := 0, cells := 0, slots := 0, locals := 0 }
def f_X5_shut_3 (cs : List (Nat × Nat)) (N : Nat)  : Nat → Nat → Int32 → Int32 → Int32 → HS → Option (Unit × HS)
  | 0, _, _, _, _, _ => none
  | n + 1, k0, v1, v3, v4, S =>
    if v3 < v4 then (
      some ((), S))
    else (
      ck (mc cs 20 k0) (
      ck (mc cs 24 k0) (
      ck (inb v1 6) (
      ck (inb v1 6) (
      lt_ (ul S 24 k0 v1.toNatClampNeg ((gl S 24 k0 v1.toNatClampNeg) ||| ((1 : Int64) <<< (v4.toInt64 &&& 63)))) (fun S6 =>
      lt_ (v4 + (1 : Int32)) (fun x8 =>
      f_X5_shut_3 cs N n k0 v1 v3 x8 S6)))))))
set_option maxHeartbeats 4000000 in
set_option maxRecDepth 100000 in
theorem b_X5_shut_3 {p : Program} {l : Launch} {e : Env} {s : State} {m : MethodId} {args : Array Value} {below : List Frame} {meth : Method} {c : Code} {D : va_G} {cy : Nat → ClassId} {cs : List (Nat × Nat)} {ad : Nat → Nat → Nat} {Zp : State → Prop} {r : Unit} {Z : HS} (B : Bd p s m args meth c D cy cs ad Zp cX5_shut 5 RX5 none) (N : Nat)  : ∀ (n : Nat) (k0 : Nat) (v1 : Int32) (v3 : Int32) (v4 : Int32) (S : HS), f_X5_shut_3 cs N n k0 v1 v3 v4 S = some (r, Z) → GW p l e rm_X5_shut s m args below meth c (QM below args s D cy cs ad (none) Z) D cy cs ad 0 0 5 3 [(0, .ref (ad 20 k0)), (1, .int v1), (3, .int v3), (4, .int v4)] [] S := by
  have hA := B.2.2.2.2.2.2.1
  have hZ := B.2.2.2.2.2.2.2.2.2.2
  intro n
  induction n with
  | zero => intro k0 v1 v3 v4 S h; cases h
  | succ n ih =>
    intro k0 v1 v3 v4 S h
    rw [f_X5_shut_3] at h
    refine g_iload B dX5_shut_3 3 rfl ?_
    refine g_iload_n B dX5_shut_5 2 rfl rfl ?_
    refine g_icmp_gt B 28 dX5_shut_6 (by decide) (fun q1 => ?_) (fun q1 => ?_)
    · have h := if_t h q1
      obtain ⟨-, rfl⟩ := some_e h
      exact g_vret B dX5_shut_28
    · have h := if_f h q1
      refine g_aload_n B dX5_shut_9 0 rfl rfl ?_
      obtain ⟨m2, h⟩ := ck_e h
      refine gt_X5_2 B m2 kf_X5_20 dX5_shut_10 ?_
      refine g_iload_n B dX5_shut_13 1 rfl rfl ?_
      refine g_dup2 B dX5_shut_14 rfl rfl ?_
      obtain ⟨m3, h⟩ := ck_e h
      obtain ⟨b4, h⟩ := ck_e h
      refine g_lald (n := 6) B m3 (fun _ => rfl) b4 dX5_shut_15 ?_
      refine g_lconst (v := (1 : Int64)) B dX5_shut_16 rfl ?_
      refine g_iload B dX5_shut_17 3 rfl ?_
      refine g_lshl B dX5_shut_19 ?_
      refine g_lor B dX5_shut_20 ?_
      obtain ⟨b5, h⟩ := ck_e h
      obtain ⟨S6, e7, h⟩ := lt_e h
      refine g_last (n := 6) B m3 b5 (fun _ => rfl) e7 dX5_shut_21 ?_
      obtain ⟨x8, e9, h⟩ := lt_e h
      refine g_iinc (v := x8) (lv' := [(4, .int x8), (0, .ref (ad 20 k0)), (1, .int v1), (3, .int v3)]) B dX5_shut_22 (k := 3) rfl (by rw [e9]; rfl) (by decide) rfl ?_
      refine g_goto B 3 dX5_shut_25 (by decide) ?_
      refine g_sub [1, 2, 3, 0] rfl ?_
      exact ih _ _ _ _ _ h
def f_X5_shut (cs : List (Nat × Nat)) (N : Nat) (k : Nat) (a1 : Int32) (a2 : Int32) (a3 : Int32) (S : HS) : Option (Unit × HS) :=
  f_X5_shut_3 cs N N k a1 a3 a2 S
set_option maxHeartbeats 4000000 in
set_option maxRecDepth 100000 in
theorem c_X5_shut {l : Launch} {D : va_G} {cy : Nat → ClassId} {cs : List (Nat × Nat)} {ad : Nat → Nat → Nat} {Zp : State → Prop} (hA : AdOk cs ad) (hZ : ZOk cs ad Zp) (N : Nat) (k : Nat) (a1 : Int32) (a2 : Int32) (a3 : Int32) (S : HS) (r : Unit) (Z : HS) (h : f_X5_shut cs N k a1 a2 a3 S = some (r, Z)) : Ctr Zp l yX5_shut cX5_shut 5 none rm_X5_shut D cy cs ad [.ref (ad 20 k), .int a1, .int a2, .int a3] S (none) Z := by
  unfold f_X5_shut at h
  refine Ctr.of hA hZ RX5 (plainFor_of_name (by decide)) rfl [(0, .ref (ad 20 k)), (1, .int a1), (2, .int a2), (3, .int a3)] rfl (Nat.le_of_ble_eq_true rfl) (fun p e s m below meth c B => ?_)
  refine g_iload_n B dX5_shut_0 2 rfl rfl ?_
  refine g_istore (lv' := [(4, .int a2), (0, .ref (ad 20 k)), (1, .int a1), (2, .int a2), (3, .int a3)]) B dX5_shut_1 (by decide) rfl ?_
  refine g_sub [1, 2, 4, 0] rfl ?_
  exact b_X5_shut_3 B N N _ _ _ _ _ h

def rm_X5_allow : Room := { frames := 0, cells := 0, slots := 0, locals := 0 }
def f_X5_allow (cs : List (Nat × Nat)) (N : Nat) (k : Nat) (a1 : Int32) (a2 : Int32) (a3 : Int32) (S : HS) : Option (Int32 × HS) :=
  ck (mc cs 20 k) (
  ck (mc cs 24 k) (
  ck (inb a2 6) (
  if (lg_cmp (((gl S 24 k a2.toNatClampNeg) >>> (a3.toInt64 &&& 63)) &&& (1 : Int64)) (0 : Int64)) = 0 then (
    ck (mc cs 21 k) (
    ck (inb a2 6) (
    if (gi S 21 k a2.toNatClampNeg) = (-1 : Int32) then (
      some ((1 : Int32), S))
    else (
      ck (inb a2 6) (
      if (gi S 21 k a2.toNatClampNeg) = a1 then (
        some ((1 : Int32), S))
      else (
        ck (mc cs 22 k) (
        ck (inb a2 6) (
        ck (mc cs 23 (6 * k + a2.toNatClampNeg)) (
        ck (inb a1 4) (
        if (gi S 23 (6 * k + a2.toNatClampNeg) a1.toNatClampNeg) < a3 then (
          some ((0 : Int32), S))
        else (
          some ((1 : Int32), S))))))))))))
  else (
    some ((0 : Int32), S)))))
set_option maxHeartbeats 4000000 in
set_option maxRecDepth 100000 in
theorem c_X5_allow {l : Launch} {D : va_G} {cy : Nat → ClassId} {cs : List (Nat × Nat)} {ad : Nat → Nat → Nat} {Zp : State → Prop} (hA : AdOk cs ad) (hZ : ZOk cs ad Zp) (N : Nat) (k : Nat) (a1 : Int32) (a2 : Int32) (a3 : Int32) (S : HS) (r : Int32) (Z : HS) (h : f_X5_allow cs N k a1 a2 a3 S = some (r, Z)) : Ctr Zp l yX5_allow cX5_allow 4 (some .boolean) rm_X5_allow D cy cs ad [.ref (ad 20 k), .int a1, .int a2, .int a3] S (some (.int r)) Z := by
  unfold f_X5_allow at h
  refine Ctr.of hA hZ RX5 (plainFor_of_name (by decide)) rfl [(0, .ref (ad 20 k)), (1, .int a1), (2, .int a2), (3, .int a3)] rfl (Nat.le_of_ble_eq_true rfl) (fun p e s m below meth c B => ?_)
  refine g_aload_n B dX5_allow_0 0 rfl rfl ?_
  obtain ⟨m1, h⟩ := ck_e h
  refine gt_X5_2 B m1 kf_X5_20 dX5_allow_1 ?_
  refine g_iload_n B dX5_allow_4 2 rfl rfl ?_
  obtain ⟨m2, h⟩ := ck_e h
  obtain ⟨b3, h⟩ := ck_e h
  refine g_lald (n := 6) B m2 (fun _ => rfl) b3 dX5_allow_5 ?_
  refine g_iload_n B dX5_allow_6 3 rfl rfl ?_
  refine g_lshr B dX5_allow_7 ?_
  refine g_lconst (v := (1 : Int64)) B dX5_allow_8 rfl ?_
  refine g_land B dX5_allow_9 ?_
  refine g_lconst (v := (0 : Int64)) B dX5_allow_10 rfl ?_
  refine g_lcmp B dX5_allow_11 ?_
  refine g_if_eq B 17 dX5_allow_12 (by decide) (fun q4 => ?_) (fun q4 => ?_)
  · have h := if_t h q4
    refine g_aload_n B dX5_allow_17 0 rfl rfl ?_
    refine gt_X5_0 B m1 kf_X5_9 dX5_allow_18 ?_
    refine g_iload_n B dX5_allow_21 2 rfl rfl ?_
    obtain ⟨m5, h⟩ := ck_e h
    obtain ⟨b6, h⟩ := ck_e h
    refine g_iald (n := 6) B m5 (fun _ => rfl) b6 dX5_allow_22 ?_
    refine g_iconst (v := (-1 : Int32)) B dX5_allow_23 (by decide) ?_
    refine g_icmp_eq B 49 dX5_allow_24 (by decide) (fun q7 => ?_) (fun q7 => ?_)
    · have h := if_t h q7
      refine g_iconst (v := (1 : Int32)) B dX5_allow_49 (by decide) ?_
      refine g_goto B 54 dX5_allow_50 (by decide) ?_
      obtain ⟨rfl, rfl⟩ := some_e h
      exact g_zret B (by decide) dX5_allow_54
    · have h := if_f h q7
      refine g_aload_n B dX5_allow_27 0 rfl rfl ?_
      refine gt_X5_0 B m1 kf_X5_9 dX5_allow_28 ?_
      refine g_iload_n B dX5_allow_31 2 rfl rfl ?_
      obtain ⟨b8, h⟩ := ck_e h
      refine g_iald (n := 6) B m5 (fun _ => rfl) b8 dX5_allow_32 ?_
      refine g_iload_n B dX5_allow_33 1 rfl rfl ?_
      refine g_icmp_eq B 49 dX5_allow_34 (by decide) (fun q9 => ?_) (fun q9 => ?_)
      · have h := if_t h q9
        refine g_iconst (v := (1 : Int32)) B dX5_allow_49 (by decide) ?_
        refine g_goto B 54 dX5_allow_50 (by decide) ?_
        obtain ⟨rfl, rfl⟩ := some_e h
        exact g_zret B (by decide) dX5_allow_54
      · have h := if_f h q9
        refine g_aload_n B dX5_allow_37 0 rfl rfl ?_
        refine gt_X5_1 B m1 kf_X5_17 dX5_allow_38 ?_
        refine g_iload_n B dX5_allow_41 2 rfl rfl ?_
        obtain ⟨m10, h⟩ := ck_e h
        obtain ⟨b11, h⟩ := ck_e h
        refine g_aald (t0 := 7) (a := ad 23 (6 * k + a2.toNatClampNeg)) B rfl rfl m10 rfl b11 rfl dX5_allow_42 ?_
        refine g_iload_n B dX5_allow_43 1 rfl rfl ?_
        obtain ⟨m12, h⟩ := ck_e h
        obtain ⟨b13, h⟩ := ck_e h
        refine g_iald (n := 4) B m12 (fun _ => rfl) b13 dX5_allow_44 ?_
        refine g_iload_n B dX5_allow_45 3 rfl rfl ?_
        refine g_icmp_lt B 53 dX5_allow_46 (by decide) (fun q14 => ?_) (fun q14 => ?_)
        · have h := if_t h q14
          refine g_iconst (v := (0 : Int32)) B dX5_allow_53 (by decide) ?_
          obtain ⟨rfl, rfl⟩ := some_e h
          exact g_zret B (by decide) dX5_allow_54
        · have h := if_f h q14
          refine g_iconst (v := (1 : Int32)) B dX5_allow_49 (by decide) ?_
          refine g_goto B 54 dX5_allow_50 (by decide) ?_
          obtain ⟨rfl, rfl⟩ := some_e h
          exact g_zret B (by decide) dX5_allow_54
  · have h := if_f h q4
    refine g_iconst (v := (0 : Int32)) B dX5_allow_15 (by decide) ?_
    obtain ⟨rfl, rfl⟩ := some_e h
    exact g_zret B (by decide) dX5_allow_16

def rm_X6_reckonAnew : Room := { frames := 1, cells := 0, slots := 0, locals := 23 }
def f_X6_reckonAnew (cs : List (Nat × Nat)) (N : Nat) (k : Nat) (a1 : Nat) (S : HS) : Option (Unit × HS) :=
  ck (mc cs 7 k) (
  ck (mc cs 6 a1) (
  ob (f_X3_grossToMake cs N a1 (gi S 7 k 2) S) (fun r3 S4 =>
  lt_ (ui S4 7 k 5 r3) (fun S6 =>
  lt_ (ui S6 7 k 6 ((gi S6 7 k 5) * (gi S6 6 a1 0))) (fun S8 =>
  lt_ (ui S8 7 k 7 ((gi S8 7 k 5) * (gi S8 6 a1 1))) (fun S10 =>
  lt_ (ui S10 7 k 9 (0 : Int32)) (fun S12 =>
  lt_ (ui S12 7 k 10 (-1 : Int32)) (fun S14 =>
  some ((), S14)))))))))
set_option maxHeartbeats 4000000 in
set_option maxRecDepth 100000 in
theorem c_X6_reckonAnew {l : Launch} {D : va_G} {cy : Nat → ClassId} {cs : List (Nat × Nat)} {ad : Nat → Nat → Nat} {Zp : State → Prop} (hA : AdOk cs ad) (hZ : ZOk cs ad Zp) (N : Nat) (k : Nat) (a1 : Nat) (S : HS) (r : Unit) (Z : HS) (h : f_X6_reckonAnew cs N k a1 S = some (r, Z)) : Ctr Zp l yX6_reckonAnew cX6_reckonAnew 2 none rm_X6_reckonAnew D cy cs ad [.ref (ad 7 k), .ref (ad 6 a1)] S (none) Z := by
  unfold f_X6_reckonAnew at h
  refine Ctr.of hA hZ RX6 (plainFor_of_name (by decide)) rfl [(0, .ref (ad 7 k)), (1, .ref (ad 6 a1))] rfl (Nat.le_of_ble_eq_true rfl) (fun p e s m below meth c B => ?_)
  refine g_aload_n B dX6_reckonAnew_0 0 rfl rfl ?_
  refine g_aload_n B dX6_reckonAnew_1 1 rfl rfl ?_
  refine g_aload_n B dX6_reckonAnew_2 0 rfl rfl ?_
  obtain ⟨m1, h⟩ := ck_e h
  refine gt_X6_2 B m1 kf_X6_21 dX6_reckonAnew_3 ?_
  obtain ⟨m2, h⟩ := ck_e h
  obtain ⟨r3, S4, e5, h⟩ := ob_e h
  refine g_cvi (rest := [.ref (ad 7 k)]) B (c_X3_grossToMake hA hZ N _ _ _ _ _ e5) mf_X3_grossToMake km_X6_24 ⟨by decide, by decide⟩ ⟨rfl, rfl⟩ m2 rfl rfl rfl rfl (Nat.le_of_ble_eq_true rfl) ⟨Nat.zero_le _, Nat.zero_le _⟩ dX6_reckonAnew_6 ?_
  obtain ⟨S6, e7, h⟩ := lt_e h
  refine pt_X6_5 B m1 kf_X6_30 e7 dX6_reckonAnew_9 ?_
  refine g_aload_n B dX6_reckonAnew_12 0 rfl rfl ?_
  refine g_aload_n B dX6_reckonAnew_13 0 rfl rfl ?_
  refine gt_X6_5 B m1 kf_X6_30 dX6_reckonAnew_14 ?_
  refine g_aload_n B dX6_reckonAnew_17 1 rfl rfl ?_
  refine gt_X3_0 B m2 kf_X6_33 dX6_reckonAnew_18 ?_
  refine g_imul B dX6_reckonAnew_21 ?_
  obtain ⟨S8, e9, h⟩ := lt_e h
  refine pt_X6_6 B m1 kf_X6_36 e9 dX6_reckonAnew_22 ?_
  refine g_aload_n B dX6_reckonAnew_25 0 rfl rfl ?_
  refine g_aload_n B dX6_reckonAnew_26 0 rfl rfl ?_
  refine gt_X6_5 B m1 kf_X6_30 dX6_reckonAnew_27 ?_
  refine g_aload_n B dX6_reckonAnew_30 1 rfl rfl ?_
  refine gt_X3_1 B m2 kf_X6_37 dX6_reckonAnew_31 ?_
  refine g_imul B dX6_reckonAnew_34 ?_
  obtain ⟨S10, e11, h⟩ := lt_e h
  refine pt_X6_7 B m1 kf_X6_40 e11 dX6_reckonAnew_35 ?_
  refine g_aload_n B dX6_reckonAnew_38 0 rfl rfl ?_
  refine g_iconst (v := (0 : Int32)) B dX6_reckonAnew_39 (by decide) ?_
  obtain ⟨S12, e13, h⟩ := lt_e h
  refine pt_X6_9 B m1 kf_X6_41 e13 dX6_reckonAnew_40 ?_
  refine g_aload_n B dX6_reckonAnew_43 0 rfl rfl ?_
  refine g_iconst (v := (-1 : Int32)) B dX6_reckonAnew_44 (by decide) ?_
  obtain ⟨S14, e15, h⟩ := lt_e h
  refine pt_X6_10 B m1 kf_X6_15 e15 dX6_reckonAnew_45 ?_
  obtain ⟨-, rfl⟩ := some_e h
  exact g_vret B dX6_reckonAnew_48

def rm_X6_hoursLeftFor : Room := { frames := 0, cells := 0, slots := 0, locals := 0 }
def f_X6_hoursLeftFor (cs : List (Nat × Nat)) (N : Nat) (k : Nat) (a1 : Int32) (S : HS) : Option (Int32 × HS) :=
  ck (mc cs 7 k) (
  if (gi S 7 k 10) = a1 then (
    some (((gi S 7 k 6) - (gi S 7 k 9)), S))
  else (
    some ((gi S 7 k 6), S)))
set_option maxHeartbeats 4000000 in
set_option maxRecDepth 100000 in
theorem c_X6_hoursLeftFor {l : Launch} {D : va_G} {cy : Nat → ClassId} {cs : List (Nat × Nat)} {ad : Nat → Nat → Nat} {Zp : State → Prop} (hA : AdOk cs ad) (hZ : ZOk cs ad Zp) (N : Nat) (k : Nat) (a1 : Int32) (S : HS) (r : Int32) (Z : HS) (h : f_X6_hoursLeftFor cs N k a1 S = some (r, Z)) : Ctr Zp l yX6_hoursLeftFor cX6_hoursLeftFor 2 (some .int) rm_X6_hoursLeftFor D cy cs ad [.ref (ad 7 k), .int a1] S (some (.int r)) Z := by
  unfold f_X6_hoursLeftFor at h
  refine Ctr.of hA hZ RX6 (plainFor_of_name (by decide)) rfl [(0, .ref (ad 7 k)), (1, .int a1)] rfl (Nat.le_of_ble_eq_true rfl) (fun p e s m below meth c B => ?_)
  refine g_aload_n B dX6_hoursLeftFor_0 0 rfl rfl ?_
  obtain ⟨m1, h⟩ := ck_e h
  refine gt_X6_10 B m1 kf_X6_15 dX6_hoursLeftFor_1 ?_
  refine g_iload_n B dX6_hoursLeftFor_4 1 rfl rfl ?_
  refine g_icmp_ne B 20 dX6_hoursLeftFor_5 (by decide) (fun q2 => ?_) (fun q2 => ?_)
  · have h := if_f h q2
    refine g_aload_n B dX6_hoursLeftFor_20 0 rfl rfl ?_
    refine gt_X6_6 B m1 kf_X6_36 dX6_hoursLeftFor_21 ?_
    obtain ⟨rfl, rfl⟩ := some_e h
    exact g_iret B dX6_hoursLeftFor_24
  · have h := if_t h q2
    refine g_aload_n B dX6_hoursLeftFor_8 0 rfl rfl ?_
    refine gt_X6_6 B m1 kf_X6_36 dX6_hoursLeftFor_9 ?_
    refine g_aload_n B dX6_hoursLeftFor_12 0 rfl rfl ?_
    refine gt_X6_9 B m1 kf_X6_41 dX6_hoursLeftFor_13 ?_
    refine g_isub B dX6_hoursLeftFor_16 ?_
    refine g_goto B 24 dX6_hoursLeftFor_17 (by decide) ?_
    obtain ⟨rfl, rfl⟩ := some_e h
    exact g_iret B dX6_hoursLeftFor_24

def rm_X6_workBy : Room := { frames := 0, cells := 0, slots := 0, locals := 0 }
def f_X6_workBy (cs : List (Nat × Nat)) (N : Nat) (k : Nat) (a1 : Int32) (a2 : Int32) (S : HS) : Option (Unit × HS) :=
  ck (mc cs 7 k) (
  if (gi S 7 k 10) = a1 then (
    lt_ (ui S 7 k 9 ((gi S 7 k 9) + a2)) (fun S3 =>
    some ((), S3)))
  else (
    lt_ (ui S 7 k 10 a1) (fun S5 =>
    lt_ (ui S5 7 k 9 (0 : Int32)) (fun S7 =>
    lt_ (ui S7 7 k 9 ((gi S7 7 k 9) + a2)) (fun S9 =>
    some ((), S9))))))
set_option maxHeartbeats 4000000 in
set_option maxRecDepth 100000 in
theorem c_X6_workBy {l : Launch} {D : va_G} {cy : Nat → ClassId} {cs : List (Nat × Nat)} {ad : Nat → Nat → Nat} {Zp : State → Prop} (hA : AdOk cs ad) (hZ : ZOk cs ad Zp) (N : Nat) (k : Nat) (a1 : Int32) (a2 : Int32) (S : HS) (r : Unit) (Z : HS) (h : f_X6_workBy cs N k a1 a2 S = some (r, Z)) : Ctr Zp l yX6_workBy cX6_workBy 3 none rm_X6_workBy D cy cs ad [.ref (ad 7 k), .int a1, .int a2] S (none) Z := by
  unfold f_X6_workBy at h
  refine Ctr.of hA hZ RX6 (plainFor_of_name (by decide)) rfl [(0, .ref (ad 7 k)), (1, .int a1), (2, .int a2)] rfl (Nat.le_of_ble_eq_true rfl) (fun p e s m below meth c B => ?_)
  refine g_aload_n B dX6_workBy_0 0 rfl rfl ?_
  obtain ⟨m1, h⟩ := ck_e h
  refine gt_X6_10 B m1 kf_X6_15 dX6_workBy_1 ?_
  refine g_iload_n B dX6_workBy_4 1 rfl rfl ?_
  refine g_icmp_eq B 18 dX6_workBy_5 (by decide) (fun q2 => ?_) (fun q2 => ?_)
  · have h := if_t h q2
    refine g_aload_n B dX6_workBy_18 0 rfl rfl ?_
    refine g_dup B dX6_workBy_19 rfl ?_
    refine gt_X6_9 B m1 kf_X6_41 dX6_workBy_20 ?_
    refine g_iload_n B dX6_workBy_23 2 rfl rfl ?_
    refine g_iadd B dX6_workBy_24 ?_
    obtain ⟨S3, e4, h⟩ := lt_e h
    refine pt_X6_9 B m1 kf_X6_41 e4 dX6_workBy_25 ?_
    obtain ⟨-, rfl⟩ := some_e h
    exact g_vret B dX6_workBy_28
  · have h := if_f h q2
    refine g_aload_n B dX6_workBy_8 0 rfl rfl ?_
    refine g_iload_n B dX6_workBy_9 1 rfl rfl ?_
    obtain ⟨S5, e6, h⟩ := lt_e h
    refine pt_X6_10 B m1 kf_X6_15 e6 dX6_workBy_10 ?_
    refine g_aload_n B dX6_workBy_13 0 rfl rfl ?_
    refine g_iconst (v := (0 : Int32)) B dX6_workBy_14 (by decide) ?_
    obtain ⟨S7, e8, h⟩ := lt_e h
    refine pt_X6_9 B m1 kf_X6_41 e8 dX6_workBy_15 ?_
    refine g_aload_n B dX6_workBy_18 0 rfl rfl ?_
    refine g_dup B dX6_workBy_19 rfl ?_
    refine gt_X6_9 B m1 kf_X6_41 dX6_workBy_20 ?_
    refine g_iload_n B dX6_workBy_23 2 rfl rfl ?_
    refine g_iadd B dX6_workBy_24 ?_
    obtain ⟨S9, e10, h⟩ := lt_e h
    refine pt_X6_9 B m1 kf_X6_41 e10 dX6_workBy_25 ?_
    obtain ⟨-, rfl⟩ := some_e h
    exact g_vret B dX6_workBy_28

def rm_X7_put : Room := { frames := 0, cells := 0, slots := 0, locals := 0 }
def f_X7_put_3 (cs : List (Nat × Nat)) (N : Nat)  : Nat → Int32 → Int32 → HS → Option (Unit × HS)
  | 0, _, _, _ => none
  | n + 1, v1, v2, S =>
    if v2 < 0 then (
      some ((), S))
    else (
      ck (mc cs 9 0) (
      if (500 : Int32) ≤ (gi S 9 0 0) then (
        some ((), S))
      else (
        ck (mc cs 10 0) (
        ck (inb (gi S 9 0 0) 500) (
        lt_ (ui S 10 0 (gi S 9 0 0).toNatClampNeg (vp_nar .byte ((v1 >>> (v2 &&& 31)).toInt8.toInt32))) (fun S6 =>
        lt_ (ui S6 9 0 0 ((gi S6 9 0 0) + (1 : Int32))) (fun S8 =>
        lt_ (v2 + (-8 : Int32)) (fun x10 =>
        f_X7_put_3 cs N n v1 x10 S8))))))))
set_option maxHeartbeats 4000000 in
set_option maxRecDepth 100000 in
theorem b_X7_put_3 {p : Program} {l : Launch} {e : Env} {s : State} {m : MethodId} {args : Array Value} {below : List Frame} {meth : Method} {c : Code} {D : va_G} {cy : Nat → ClassId} {cs : List (Nat × Nat)} {ad : Nat → Nat → Nat} {Zp : State → Prop} {r : Unit} {Z : HS} (B : Bd p s m args meth c D cy cs ad Zp cX7_put 3 RX7 none) (N : Nat)  : ∀ (n : Nat) (v1 : Int32) (v2 : Int32) (S : HS), f_X7_put_3 cs N n v1 v2 S = some (r, Z) → GW p l e rm_X7_put s m args below meth c (QM below args s D cy cs ad (none) Z) D cy cs ad 0 0 3 3 [(0, .ref (ad 9 0)), (1, .int v1), (2, .int v2)] [] S := by
  have hA := B.2.2.2.2.2.2.1
  have hZ := B.2.2.2.2.2.2.2.2.2.2
  intro n
  induction n with
  | zero => intro v1 v2 S h; cases h
  | succ n ih =>
    intro v1 v2 S h
    rw [f_X7_put_3] at h
    refine g_iload_n B dX7_put_3 2 rfl rfl ?_
    refine g_if_lt B 46 dX7_put_4 (by decide) (fun q1 => ?_) (fun q1 => ?_)
    · have h := if_t h q1
      obtain ⟨-, rfl⟩ := some_e h
      exact g_vret B dX7_put_46
    · have h := if_f h q1
      refine g_aload_n B dX7_put_7 0 rfl rfl ?_
      obtain ⟨m2, h⟩ := ck_e h
      refine gt_X7_0 B m2 kf_X7_15 dX7_put_8 ?_
      refine g_sipush (v := (500 : Int32)) B dX7_put_11 (by decide) ?_
      refine g_icmp_ge B 46 dX7_put_14 (by decide) (fun q3 => ?_) (fun q3 => ?_)
      · have h := if_t h q3
        obtain ⟨-, rfl⟩ := some_e h
        exact g_vret B dX7_put_46
      · have h := if_f h q3
        refine g_aload_n B dX7_put_17 0 rfl rfl ?_
        refine gt_X7_4 B m2 kf_X7_9 dX7_put_18 ?_
        refine g_aload_n B dX7_put_21 0 rfl rfl ?_
        refine gt_X7_0 B m2 kf_X7_15 dX7_put_22 ?_
        refine g_iload_n B dX7_put_25 1 rfl rfl ?_
        refine g_iload_n B dX7_put_26 2 rfl rfl ?_
        refine g_ishr B dX7_put_27 ?_
        refine g_i2b B dX7_put_28 ?_
        obtain ⟨m4, h⟩ := ck_e h
        obtain ⟨b5, h⟩ := ck_e h
        obtain ⟨S6, e7, h⟩ := lt_e h
        refine g_bast (n := 500) B m4 b5 (fun _ => rfl) e7 dX7_put_29 ?_
        refine g_aload_n B dX7_put_30 0 rfl rfl ?_
        refine g_dup B dX7_put_31 rfl ?_
        refine gt_X7_0 B m2 kf_X7_15 dX7_put_32 ?_
        refine g_iconst (v := (1 : Int32)) B dX7_put_35 (by decide) ?_
        refine g_iadd B dX7_put_36 ?_
        obtain ⟨S8, e9, h⟩ := lt_e h
        refine pt_X7_0 B m2 kf_X7_15 e9 dX7_put_37 ?_
        obtain ⟨x10, e11, h⟩ := lt_e h
        refine g_iinc (v := x10) (lv' := [(2, .int x10), (0, .ref (ad 9 0)), (1, .int v1)]) B dX7_put_40 (k := 2) rfl (by rw [e11]; rfl) (by decide) rfl ?_
        refine g_goto B 3 dX7_put_43 (by decide) ?_
        refine g_sub [1, 2, 0] rfl ?_
        exact ih _ _ _ h
def f_X7_put (cs : List (Nat × Nat)) (N : Nat) (a1 : Int32) (S : HS) : Option (Unit × HS) :=
  f_X7_put_3 cs N N a1 (24 : Int32) S
set_option maxHeartbeats 4000000 in
set_option maxRecDepth 100000 in
theorem c_X7_put {l : Launch} {D : va_G} {cy : Nat → ClassId} {cs : List (Nat × Nat)} {ad : Nat → Nat → Nat} {Zp : State → Prop} (hA : AdOk cs ad) (hZ : ZOk cs ad Zp) (N : Nat) (a1 : Int32) (S : HS) (r : Unit) (Z : HS) (h : f_X7_put cs N a1 S = some (r, Z)) : Ctr Zp l yX7_put cX7_put 3 none rm_X7_put D cy cs ad [.ref (ad 9 0), .int a1] S (none) Z := by
  unfold f_X7_put at h
  refine Ctr.of hA hZ RX7 (plainFor_of_name (by decide)) rfl [(0, .ref (ad 9 0)), (1, .int a1)] rfl (Nat.le_of_ble_eq_true rfl) (fun p e s m below meth c B => ?_)
  refine g_bipush (v := (24 : Int32)) B dX7_put_0 (by decide) ?_
  refine g_istore_n (lv' := [(2, .int (24 : Int32)), (0, .ref (ad 9 0)), (1, .int a1)]) B dX7_put_2 rfl (by decide) rfl ?_
  refine g_sub [1, 2, 0] rfl ?_
  exact b_X7_put_3 B N N _ _ _ h

def rm_X7_skipBlanks : Room := { frames := 0, cells := 0, slots := 0, locals := 0 }
def f_X7_skipBlanks_0 (cs : List (Nat × Nat)) (N : Nat)  : Nat → HS → Option (Unit × HS)
  | 0, _ => none
  | n + 1, S =>
    ck (mc cs 9 0) (
    if (gi S 9 0 0) ≤ (gi S 9 0 5) then (
      some ((), S))
    else (
      ck (mc cs 10 0) (
      ck (inb (gi S 9 0 5) 500) (
      if (gi S 10 0 (gi S 9 0 5).toNatClampNeg) = (32 : Int32) then (
        lt_ (ui S 9 0 5 ((gi S 9 0 5) + (1 : Int32))) (fun S6 =>
        f_X7_skipBlanks_0 cs N n  S6))
      else (
        ck (inb (gi S 9 0 5) 500) (
        if (gi S 10 0 (gi S 9 0 5).toNatClampNeg) = (10 : Int32) then (
          lt_ (ui S 9 0 5 ((gi S 9 0 5) + (1 : Int32))) (fun S10 =>
          f_X7_skipBlanks_0 cs N n  S10))
        else (
          some ((), S))))))))
set_option maxHeartbeats 4000000 in
set_option maxRecDepth 100000 in
theorem b_X7_skipBlanks_0 {p : Program} {l : Launch} {e : Env} {s : State} {m : MethodId} {args : Array Value} {below : List Frame} {meth : Method} {c : Code} {D : va_G} {cy : Nat → ClassId} {cs : List (Nat × Nat)} {ad : Nat → Nat → Nat} {Zp : State → Prop} {r : Unit} {Z : HS} (B : Bd p s m args meth c D cy cs ad Zp cX7_skipBlanks 1 RX7 none) (N : Nat)  : ∀ (n : Nat)  (S : HS), f_X7_skipBlanks_0 cs N n  S = some (r, Z) → GW p l e rm_X7_skipBlanks s m args below meth c (QM below args s D cy cs ad (none) Z) D cy cs ad 0 0 1 0 [(0, .ref (ad 9 0))] [] S := by
  have hA := B.2.2.2.2.2.2.1
  have hZ := B.2.2.2.2.2.2.2.2.2.2
  intro n
  induction n with
  | zero => intro  S h; cases h
  | succ n ih =>
    intro  S h
    rw [f_X7_skipBlanks_0] at h
    refine g_aload_n B dX7_skipBlanks_0 0 rfl rfl ?_
    obtain ⟨m1, h⟩ := ck_e h
    refine gt_X7_5 B m1 kf_X7_19 dX7_skipBlanks_1 ?_
    refine g_aload_n B dX7_skipBlanks_4 0 rfl rfl ?_
    refine gt_X7_0 B m1 kf_X7_15 dX7_skipBlanks_5 ?_
    refine g_icmp_ge B 52 dX7_skipBlanks_8 (by decide) (fun q2 => ?_) (fun q2 => ?_)
    · have h := if_t h q2
      obtain ⟨-, rfl⟩ := some_e h
      exact g_vret B dX7_skipBlanks_52
    · have h := if_f h q2
      refine g_aload_n B dX7_skipBlanks_11 0 rfl rfl ?_
      refine gt_X7_4 B m1 kf_X7_9 dX7_skipBlanks_12 ?_
      refine g_aload_n B dX7_skipBlanks_15 0 rfl rfl ?_
      refine gt_X7_5 B m1 kf_X7_19 dX7_skipBlanks_16 ?_
      obtain ⟨m3, h⟩ := ck_e h
      obtain ⟨b4, h⟩ := ck_e h
      refine g_bald (n := 500) B m3 (fun _ => rfl) b4 dX7_skipBlanks_19 ?_
      refine g_bipush (v := (32 : Int32)) B dX7_skipBlanks_20 (by decide) ?_
      refine g_icmp_eq B 39 dX7_skipBlanks_22 (by decide) (fun q5 => ?_) (fun q5 => ?_)
      · have h := if_t h q5
        refine g_aload_n B dX7_skipBlanks_39 0 rfl rfl ?_
        refine g_dup B dX7_skipBlanks_40 rfl ?_
        refine gt_X7_5 B m1 kf_X7_19 dX7_skipBlanks_41 ?_
        refine g_iconst (v := (1 : Int32)) B dX7_skipBlanks_44 (by decide) ?_
        refine g_iadd B dX7_skipBlanks_45 ?_
        obtain ⟨S6, e7, h⟩ := lt_e h
        refine pt_X7_5 B m1 kf_X7_19 e7 dX7_skipBlanks_46 ?_
        refine g_goto B 0 dX7_skipBlanks_49 (by decide) ?_
        exact ih  _ h
      · have h := if_f h q5
        refine g_aload_n B dX7_skipBlanks_25 0 rfl rfl ?_
        refine gt_X7_4 B m1 kf_X7_9 dX7_skipBlanks_26 ?_
        refine g_aload_n B dX7_skipBlanks_29 0 rfl rfl ?_
        refine gt_X7_5 B m1 kf_X7_19 dX7_skipBlanks_30 ?_
        obtain ⟨b8, h⟩ := ck_e h
        refine g_bald (n := 500) B m3 (fun _ => rfl) b8 dX7_skipBlanks_33 ?_
        refine g_bipush (v := (10 : Int32)) B dX7_skipBlanks_34 (by decide) ?_
        refine g_icmp_ne B 52 dX7_skipBlanks_36 (by decide) (fun q9 => ?_) (fun q9 => ?_)
        · have h := if_f h q9
          obtain ⟨-, rfl⟩ := some_e h
          exact g_vret B dX7_skipBlanks_52
        · have h := if_t h q9
          refine g_aload_n B dX7_skipBlanks_39 0 rfl rfl ?_
          refine g_dup B dX7_skipBlanks_40 rfl ?_
          refine gt_X7_5 B m1 kf_X7_19 dX7_skipBlanks_41 ?_
          refine g_iconst (v := (1 : Int32)) B dX7_skipBlanks_44 (by decide) ?_
          refine g_iadd B dX7_skipBlanks_45 ?_
          obtain ⟨S10, e11, h⟩ := lt_e h
          refine pt_X7_5 B m1 kf_X7_19 e11 dX7_skipBlanks_46 ?_
          refine g_goto B 0 dX7_skipBlanks_49 (by decide) ?_
          exact ih  _ h
def f_X7_skipBlanks (cs : List (Nat × Nat)) (N : Nat)  (S : HS) : Option (Unit × HS) :=
  f_X7_skipBlanks_0 cs N N  S
set_option maxHeartbeats 4000000 in
set_option maxRecDepth 100000 in
theorem c_X7_skipBlanks {l : Launch} {D : va_G} {cy : Nat → ClassId} {cs : List (Nat × Nat)} {ad : Nat → Nat → Nat} {Zp : State → Prop} (hA : AdOk cs ad) (hZ : ZOk cs ad Zp) (N : Nat)  (S : HS) (r : Unit) (Z : HS) (h : f_X7_skipBlanks cs N  S = some (r, Z)) : Ctr Zp l yX7_skipBlanks cX7_skipBlanks 1 none rm_X7_skipBlanks D cy cs ad [.ref (ad 9 0)] S (none) Z := by
  unfold f_X7_skipBlanks at h
  refine Ctr.of hA hZ RX7 (plainFor_of_name (by decide)) rfl [(0, .ref (ad 9 0))] rfl (Nat.le_of_ble_eq_true rfl) (fun p e s m below meth c B => ?_)
  exact b_X7_skipBlanks_0 B N N  _ h

def rm_X7_isWord : Room := { frames := 4, cells := 0, slots := 0, locals := 85 }
def f_X7_isWord_20 (cs : List (Nat × Nat)) (N : Nat)  : Nat → Nat → Int32 → HS → Option (Int32 × HS)
  | 0, _, _, _ => none
  | n + 1, k1, v2, S =>
    ck (decide (k1 < 8)) (
    ob (f_J0_length_8abf5 cs N k1 S) (fun r2 S3 =>
    if r2 ≤ v2 then (
      some ((1 : Int32), S3))
    else (
      ck (mc cs 9 0) (
      ck (mc cs 10 0) (
      ck (inb ((gi S3 9 0 2) + v2) 500) (
      ob (f_J0_charAt_5068e cs N k1 v2 S3) (fun r9 S10 =>
      if (gi S3 10 0 ((gi S3 9 0 2) + v2).toNatClampNeg) = r9 then (
        lt_ (v2 + (1 : Int32)) (fun x13 =>
        f_X7_isWord_20 cs N n k1 x13 S10))
      else (
        some ((0 : Int32), S10)))))))))
set_option maxHeartbeats 4000000 in
set_option maxRecDepth 100000 in
theorem b_X7_isWord_20 {p : Program} {l : Launch} {e : Env} {s : State} {m : MethodId} {args : Array Value} {below : List Frame} {meth : Method} {c : Code} {D : va_G} {cy : Nat → ClassId} {cs : List (Nat × Nat)} {ad : Nat → Nat → Nat} {r : Int32} {Z : HS} (B : Bd p s m args meth c D cy cs ad (gZ cs ad) cX7_isWord 3 RX7 (some .boolean)) (N : Nat)  : ∀ (n : Nat) (k1 : Nat) (v2 : Int32) (S : HS), f_X7_isWord_20 cs N n k1 v2 S = some (r, Z) → GW p l e rm_X7_isWord s m args below meth c (QM below args s D cy cs ad (some (.int r)) Z) D cy cs ad 0 0 3 20 [(0, .ref (ad 9 0)), (1, .ref (ad 41 k1)), (2, .int v2)] [] S := by
  have hA := B.2.2.2.2.2.2.1
  have hZ := B.2.2.2.2.2.2.2.2.2.2
  intro n
  induction n with
  | zero => intro k1 v2 S h; cases h
  | succ n ih =>
    intro k1 v2 S h
    rw [f_X7_isWord_20] at h
    refine g_iload_n B dX7_isWord_20 2 rfl rfl ?_
    refine g_aload_n B dX7_isWord_21 1 rfl rfl ?_
    obtain ⟨m1, h⟩ := ck_e h
    have m1 := of_decide_eq_true m1
    obtain ⟨r2, S3, e4, h⟩ := ob_e h
    refine g_cvk (rest := [.int v2]) B (c_J0_length_8abf5 hA N _ _ _ _ e4) mf_J0_length_8abf5 km_X7_74 ⟨by decide, by decide⟩ ⟨rfl, rfl⟩ m1 rfl rfl (Nat.le_of_ble_eq_true rfl) ⟨Nat.zero_le _, Nat.zero_le _⟩ dX7_isWord_22 ?_
    refine g_icmp_ge B 55 dX7_isWord_25 (by decide) (fun q5 => ?_) (fun q5 => ?_)
    · have h := if_t h q5
      refine g_iconst (v := (1 : Int32)) B dX7_isWord_55 (by decide) ?_
      obtain ⟨rfl, rfl⟩ := some_e h
      exact g_zret B (by decide) dX7_isWord_56
    · have h := if_f h q5
      refine g_aload_n B dX7_isWord_28 0 rfl rfl ?_
      obtain ⟨m6, h⟩ := ck_e h
      refine gt_X7_4 B m6 kf_X7_9 dX7_isWord_29 ?_
      refine g_aload_n B dX7_isWord_32 0 rfl rfl ?_
      refine gt_X7_2 B m6 kf_X7_28 dX7_isWord_33 ?_
      refine g_iload_n B dX7_isWord_36 2 rfl rfl ?_
      refine g_iadd B dX7_isWord_37 ?_
      obtain ⟨m7, h⟩ := ck_e h
      obtain ⟨b8, h⟩ := ck_e h
      refine g_bald (n := 500) B m7 (fun _ => rfl) b8 dX7_isWord_38 ?_
      refine g_aload_n B dX7_isWord_39 1 rfl rfl ?_
      refine g_iload_n B dX7_isWord_40 2 rfl rfl ?_
      obtain ⟨r9, S10, e11, h⟩ := ob_e h
      refine g_cvk (rest := [.int (gi S3 10 0 ((gi S3 9 0 2) + v2).toNatClampNeg)]) B (c_J0_charAt_5068e hA N _ _ _ _ _ e11) mf_J0_charAt_5068e km_X7_78 ⟨by decide, by decide⟩ ⟨rfl, rfl⟩ m1 rfl rfl (Nat.le_of_ble_eq_true rfl) ⟨Nat.zero_le _, Nat.zero_le _⟩ dX7_isWord_41 ?_
      refine g_icmp_eq B 49 dX7_isWord_44 (by decide) (fun q12 => ?_) (fun q12 => ?_)
      · have h := if_t h q12
        obtain ⟨x13, e14, h⟩ := lt_e h
        refine g_iinc (v := x13) (lv' := [(2, .int x13), (0, .ref (ad 9 0)), (1, .ref (ad 41 k1))]) B dX7_isWord_49 (k := 2) rfl (by rw [e14]; rfl) (by decide) rfl ?_
        refine g_goto B 20 dX7_isWord_52 (by decide) ?_
        refine g_sub [1, 2, 0] rfl ?_
        exact ih _ _ _ h
      · have h := if_f h q12
        refine g_iconst (v := (0 : Int32)) B dX7_isWord_47 (by decide) ?_
        obtain ⟨rfl, rfl⟩ := some_e h
        exact g_zret B (by decide) dX7_isWord_48
def f_X7_isWord (cs : List (Nat × Nat)) (N : Nat) (a1 : Nat) (S : HS) : Option (Int32 × HS) :=
  ck (mc cs 9 0) (
  ck (decide (a1 < 8)) (
  ob (f_J0_length_8abf5 cs N a1 S) (fun r3 S4 =>
  if ((gi S 9 0 5) - (gi S 9 0 2)) = r3 then (
    f_X7_isWord_20 cs N N a1 (0 : Int32) S4)
  else (
    some ((0 : Int32), S4)))))
set_option maxHeartbeats 4000000 in
set_option maxRecDepth 100000 in
theorem c_X7_isWord {l : Launch} {D : va_G} {cy : Nat → ClassId} {cs : List (Nat × Nat)} {ad : Nat → Nat → Nat} (hA : AdOk cs ad) (N : Nat) (a1 : Nat) (S : HS) (r : Int32) (Z : HS) (h : f_X7_isWord cs N a1 S = some (r, Z)) : Ctr (gZ cs ad) l yX7_isWord cX7_isWord 3 (some .boolean) rm_X7_isWord D cy cs ad [.ref (ad 9 0), .ref (ad 41 a1)] S (some (.int r)) Z := by
  have hZ := gZ_ok cs ad
  unfold f_X7_isWord at h
  refine Ctr.of hA (gZ_ok cs ad) RX7 (plainFor_of_name (by decide)) rfl [(0, .ref (ad 9 0)), (1, .ref (ad 41 a1))] rfl (Nat.le_of_ble_eq_true rfl) (fun p e s m below meth c B => ?_)
  refine g_aload_n B dX7_isWord_0 0 rfl rfl ?_
  obtain ⟨m1, h⟩ := ck_e h
  refine gt_X7_5 B m1 kf_X7_19 dX7_isWord_1 ?_
  refine g_aload_n B dX7_isWord_4 0 rfl rfl ?_
  refine gt_X7_2 B m1 kf_X7_28 dX7_isWord_5 ?_
  refine g_isub B dX7_isWord_8 ?_
  refine g_aload_n B dX7_isWord_9 1 rfl rfl ?_
  obtain ⟨m2, h⟩ := ck_e h
  have m2 := of_decide_eq_true m2
  obtain ⟨r3, S4, e5, h⟩ := ob_e h
  refine g_cvk (rest := [.int ((gi S 9 0 5) - (gi S 9 0 2))]) B (c_J0_length_8abf5 hA N _ _ _ _ e5) mf_J0_length_8abf5 km_X7_74 ⟨by decide, by decide⟩ ⟨rfl, rfl⟩ m2 rfl rfl (Nat.le_of_ble_eq_true rfl) ⟨Nat.zero_le _, Nat.zero_le _⟩ dX7_isWord_10 ?_
  refine g_icmp_eq B 18 dX7_isWord_13 (by decide) (fun q6 => ?_) (fun q6 => ?_)
  · have h := if_t h q6
    refine g_iconst (v := (0 : Int32)) B dX7_isWord_18 (by decide) ?_
    refine g_istore_n (lv' := [(2, .int (0 : Int32)), (0, .ref (ad 9 0)), (1, .ref (ad 41 a1))]) B dX7_isWord_19 rfl (by decide) rfl ?_
    refine g_sub [1, 2, 0] rfl ?_
    exact b_X7_isWord_20 B N N _ _ _ h
  · have h := if_f h q6
    refine g_iconst (v := (0 : Int32)) B dX7_isWord_16 (by decide) ?_
    obtain ⟨rfl, rfl⟩ := some_e h
    exact g_zret B (by decide) dX7_isWord_17

def rm_X7_isLetter : Room := { frames := 0, cells := 0, slots := 0, locals := 0 }
def f_X7_isLetter_12 (cs : List (Nat × Nat)) (N : Nat)  (v0 : Int32) (S : HS) : Option (Int32 × HS) :=
  if v0 < (65 : Int32) then (
    some ((0 : Int32), S))
  else (
    if (90 : Int32) < v0 then (
      some ((0 : Int32), S))
    else (
      some ((1 : Int32), S)))
set_option maxHeartbeats 4000000 in
set_option maxRecDepth 100000 in
theorem b_X7_isLetter_12 {p : Program} {l : Launch} {e : Env} {s : State} {m : MethodId} {args : Array Value} {below : List Frame} {meth : Method} {c : Code} {D : va_G} {cy : Nat → ClassId} {cs : List (Nat × Nat)} {ad : Nat → Nat → Nat} {Zp : State → Prop} {r : Int32} {Z : HS} (B : Bd p s m args meth c D cy cs ad Zp cX7_isLetter 1 RX7 (some .boolean)) (N : Nat)  (v0 : Int32) (S : HS) (h : f_X7_isLetter_12 cs N v0 S = some (r, Z)) : GW p l e rm_X7_isLetter s m args below meth c (QM below args s D cy cs ad (some (.int r)) Z) D cy cs ad 0 0 1 12 [(0, .int v0)] [] S := by
  have hA := B.2.2.2.2.2.2.1
  have hZ := B.2.2.2.2.2.2.2.2.2.2
  unfold f_X7_isLetter_12 at h
  refine g_iload_n B dX7_isLetter_12 0 rfl rfl ?_
  refine g_bipush (v := (65 : Int32)) B dX7_isLetter_13 (by decide) ?_
  refine g_icmp_lt B 28 dX7_isLetter_15 (by decide) (fun q1 => ?_) (fun q1 => ?_)
  · have h := if_t h q1
    refine g_iconst (v := (0 : Int32)) B dX7_isLetter_28 (by decide) ?_
    obtain ⟨rfl, rfl⟩ := some_e h
    exact g_zret B (by decide) dX7_isLetter_29
  · have h := if_f h q1
    refine g_iload_n B dX7_isLetter_18 0 rfl rfl ?_
    refine g_bipush (v := (90 : Int32)) B dX7_isLetter_19 (by decide) ?_
    refine g_icmp_gt B 28 dX7_isLetter_21 (by decide) (fun q2 => ?_) (fun q2 => ?_)
    · have h := if_t h q2
      refine g_iconst (v := (0 : Int32)) B dX7_isLetter_28 (by decide) ?_
      obtain ⟨rfl, rfl⟩ := some_e h
      exact g_zret B (by decide) dX7_isLetter_29
    · have h := if_f h q2
      refine g_iconst (v := (1 : Int32)) B dX7_isLetter_24 (by decide) ?_
      refine g_goto B 29 dX7_isLetter_25 (by decide) ?_
      obtain ⟨rfl, rfl⟩ := some_e h
      exact g_zret B (by decide) dX7_isLetter_29
def f_X7_isLetter (cs : List (Nat × Nat)) (N : Nat) (a1 : Int32) (S : HS) : Option (Int32 × HS) :=
  if a1 < (97 : Int32) then (
    f_X7_isLetter_12 cs N a1 S)
  else (
    if a1 ≤ (122 : Int32) then (
      some ((1 : Int32), S))
    else (
      f_X7_isLetter_12 cs N a1 S))
set_option maxHeartbeats 4000000 in
set_option maxRecDepth 100000 in
theorem c_X7_isLetter {l : Launch} {D : va_G} {cy : Nat → ClassId} {cs : List (Nat × Nat)} {ad : Nat → Nat → Nat} {Zp : State → Prop} (hA : AdOk cs ad) (hZ : ZOk cs ad Zp) (N : Nat) (a1 : Int32) (S : HS) (r : Int32) (Z : HS) (h : f_X7_isLetter cs N a1 S = some (r, Z)) : Ctr Zp l yX7_isLetter cX7_isLetter 1 (some .boolean) rm_X7_isLetter D cy cs ad [.int a1] S (some (.int r)) Z := by
  unfold f_X7_isLetter at h
  refine Ctr.of hA hZ RX7 (plainFor_of_name (by decide)) rfl [(0, .int a1)] rfl (Nat.le_of_ble_eq_true rfl) (fun p e s m below meth c B => ?_)
  refine g_iload_n B dX7_isLetter_0 0 rfl rfl ?_
  refine g_bipush (v := (97 : Int32)) B dX7_isLetter_1 (by decide) ?_
  refine g_icmp_lt B 12 dX7_isLetter_3 (by decide) (fun q1 => ?_) (fun q1 => ?_)
  · have h := if_t h q1
    exact b_X7_isLetter_12 B N _ _ h
  · have h := if_f h q1
    refine g_iload_n B dX7_isLetter_6 0 rfl rfl ?_
    refine g_bipush (v := (122 : Int32)) B dX7_isLetter_7 (by decide) ?_
    refine g_icmp_le B 24 dX7_isLetter_9 (by decide) (fun q2 => ?_) (fun q2 => ?_)
    · have h := if_t h q2
      refine g_iconst (v := (1 : Int32)) B dX7_isLetter_24 (by decide) ?_
      refine g_goto B 29 dX7_isLetter_25 (by decide) ?_
      obtain ⟨rfl, rfl⟩ := some_e h
      exact g_zret B (by decide) dX7_isLetter_29
    · have h := if_f h q2
      exact b_X7_isLetter_12 B N _ _ h

def rm_X7_isDigit : Room := { frames := 0, cells := 0, slots := 0, locals := 0 }
def f_X7_isDigit (cs : List (Nat × Nat)) (N : Nat) (a1 : Int32) (S : HS) : Option (Int32 × HS) :=
  if a1 < (48 : Int32) then (
    some ((0 : Int32), S))
  else (
    if (57 : Int32) < a1 then (
      some ((0 : Int32), S))
    else (
      some ((1 : Int32), S)))
set_option maxHeartbeats 4000000 in
set_option maxRecDepth 100000 in
theorem c_X7_isDigit {l : Launch} {D : va_G} {cy : Nat → ClassId} {cs : List (Nat × Nat)} {ad : Nat → Nat → Nat} {Zp : State → Prop} (hA : AdOk cs ad) (hZ : ZOk cs ad Zp) (N : Nat) (a1 : Int32) (S : HS) (r : Int32) (Z : HS) (h : f_X7_isDigit cs N a1 S = some (r, Z)) : Ctr Zp l yX7_isDigit cX7_isDigit 1 (some .boolean) rm_X7_isDigit D cy cs ad [.int a1] S (some (.int r)) Z := by
  unfold f_X7_isDigit at h
  refine Ctr.of hA hZ RX7 (plainFor_of_name (by decide)) rfl [(0, .int a1)] rfl (Nat.le_of_ble_eq_true rfl) (fun p e s m below meth c B => ?_)
  refine g_iload_n B dX7_isDigit_0 0 rfl rfl ?_
  refine g_bipush (v := (48 : Int32)) B dX7_isDigit_1 (by decide) ?_
  refine g_icmp_lt B 16 dX7_isDigit_3 (by decide) (fun q1 => ?_) (fun q1 => ?_)
  · have h := if_t h q1
    refine g_iconst (v := (0 : Int32)) B dX7_isDigit_16 (by decide) ?_
    obtain ⟨rfl, rfl⟩ := some_e h
    exact g_zret B (by decide) dX7_isDigit_17
  · have h := if_f h q1
    refine g_iload_n B dX7_isDigit_6 0 rfl rfl ?_
    refine g_bipush (v := (57 : Int32)) B dX7_isDigit_7 (by decide) ?_
    refine g_icmp_gt B 16 dX7_isDigit_9 (by decide) (fun q2 => ?_) (fun q2 => ?_)
    · have h := if_t h q2
      refine g_iconst (v := (0 : Int32)) B dX7_isDigit_16 (by decide) ?_
      obtain ⟨rfl, rfl⟩ := some_e h
      exact g_zret B (by decide) dX7_isDigit_17
    · have h := if_f h q2
      refine g_iconst (v := (1 : Int32)) B dX7_isDigit_12 (by decide) ?_
      refine g_goto B 17 dX7_isDigit_13 (by decide) ?_
      obtain ⟨rfl, rfl⟩ := some_e h
      exact g_zret B (by decide) dX7_isDigit_17

def rm_X8_feed : Room := { frames := 1, cells := 0, slots := 0, locals := 22 }
def f_X8_feed (cs : List (Nat × Nat)) (N : Nat) (a1 : Int32) (a2 : Int32) (a3 : Int32) (a4 : Int32) (a5 : Int32) (S : HS) : Option (Int32 × HS) :=
  ck (mc cs 0 0) (
  ck (mc cs 8 0) (
  ck (mc cs 9 0) (
  if ((gi S 9 0 0) + (20 : Int32)) ≤ (500 : Int32) then (
    ob (f_X7_put cs N a1 S) (fun r5 S6 =>
    ob (f_X7_put cs N a2 S6) (fun r8 S9 =>
    ob (f_X7_put cs N a3 S9) (fun r11 S12 =>
    ob (f_X7_put cs N a4 S12) (fun r14 S15 =>
    ob (f_X7_put cs N a5 S15) (fun r17 S18 =>
    some ((gi S18 9 0 0), S18)))))))
  else (
    some ((-1 : Int32), S)))))
set_option maxHeartbeats 4000000 in
set_option maxRecDepth 100000 in
theorem c_X8_feed {l : Launch} {D : va_G} {cy : Nat → ClassId} {cs : List (Nat × Nat)} {ad : Nat → Nat → Nat} {Zp : State → Prop} (hA : AdOk cs ad) (hZ : ZOk cs ad Zp) (N : Nat) (a1 : Int32) (a2 : Int32) (a3 : Int32) (a4 : Int32) (a5 : Int32) (S : HS) (r : Int32) (Z : HS) (h : f_X8_feed cs N a1 a2 a3 a4 a5 S = some (r, Z)) : Ctr Zp l yX8_feed cX8_feed 7 (some .int) rm_X8_feed D cy cs ad [.ref (ad 0 0), .int a1, .int a2, .int a3, .int a4, .int a5] S (some (.int r)) Z := by
  unfold f_X8_feed at h
  refine Ctr.of hA hZ RX8 (plainFor_of_name (by decide)) rfl [(0, .ref (ad 0 0)), (1, .int a1), (2, .int a2), (3, .int a3), (4, .int a4), (5, .int a5)] rfl (Nat.le_of_ble_eq_true rfl) (fun p e s m below meth c B => ?_)
  refine g_aload_n B dX8_feed_0 0 rfl rfl ?_
  obtain ⟨m1, h⟩ := ck_e h
  refine gt_X8_3 B m1 kf_X8_30 dX8_feed_1 ?_
  obtain ⟨m2, h⟩ := ck_e h
  refine gt_X1_0 B m2 kf_X8_117 dX8_feed_4 ?_
  refine g_astore (lv' := [(6, .ref (ad 9 0)), (0, .ref (ad 0 0)), (1, .int a1), (2, .int a2), (3, .int a3), (4, .int a4), (5, .int a5)]) B dX8_feed_7 (by decide) rfl ?_
  refine g_aload B dX8_feed_9 0 rfl ?_
  obtain ⟨m3, h⟩ := ck_e h
  refine gt_X7_0 B m3 kf_X8_121 dX8_feed_11 ?_
  refine g_bipush (v := (20 : Int32)) B dX8_feed_14 (by decide) ?_
  refine g_iadd B dX8_feed_16 ?_
  refine g_sipush (v := (500 : Int32)) B dX8_feed_17 (by decide) ?_
  refine g_icmp_le B 25 dX8_feed_20 (by decide) (fun q4 => ?_) (fun q4 => ?_)
  · have h := if_t h q4
    refine g_aload B dX8_feed_25 0 rfl ?_
    refine g_iload_n B dX8_feed_27 2 rfl rfl ?_
    obtain ⟨r5, S6, e7, h⟩ := ob_e h
    refine g_cvv (rest := []) B (c_X7_put hA hZ N _ _ _ _ e7) mf_X7_put km_X8_126 ⟨by decide, by decide⟩ ⟨rfl, rfl⟩ m3 rfl rfl rfl rfl (Nat.le_of_ble_eq_true rfl) ⟨Nat.zero_le _, Nat.zero_le _⟩ dX8_feed_28 ?_
    refine g_aload B dX8_feed_31 0 rfl ?_
    refine g_iload_n B dX8_feed_33 3 rfl rfl ?_
    obtain ⟨r8, S9, e10, h⟩ := ob_e h
    refine g_cvv (rest := []) B (c_X7_put hA hZ N _ _ _ _ e10) mf_X7_put km_X8_126 ⟨by decide, by decide⟩ ⟨rfl, rfl⟩ m3 rfl rfl rfl rfl (Nat.le_of_ble_eq_true rfl) ⟨Nat.zero_le _, Nat.zero_le _⟩ dX8_feed_34 ?_
    refine g_aload B dX8_feed_37 0 rfl ?_
    refine g_iload_n B dX8_feed_39 4 rfl rfl ?_
    obtain ⟨r11, S12, e13, h⟩ := ob_e h
    refine g_cvv (rest := []) B (c_X7_put hA hZ N _ _ _ _ e13) mf_X7_put km_X8_126 ⟨by decide, by decide⟩ ⟨rfl, rfl⟩ m3 rfl rfl rfl rfl (Nat.le_of_ble_eq_true rfl) ⟨Nat.zero_le _, Nat.zero_le _⟩ dX8_feed_40 ?_
    refine g_aload B dX8_feed_43 0 rfl ?_
    refine g_iload B dX8_feed_45 5 rfl ?_
    obtain ⟨r14, S15, e16, h⟩ := ob_e h
    refine g_cvv (rest := []) B (c_X7_put hA hZ N _ _ _ _ e16) mf_X7_put km_X8_126 ⟨by decide, by decide⟩ ⟨rfl, rfl⟩ m3 rfl rfl rfl rfl (Nat.le_of_ble_eq_true rfl) ⟨Nat.zero_le _, Nat.zero_le _⟩ dX8_feed_47 ?_
    refine g_aload B dX8_feed_50 0 rfl ?_
    refine g_iload B dX8_feed_52 6 rfl ?_
    obtain ⟨r17, S18, e19, h⟩ := ob_e h
    refine g_cvv (rest := []) B (c_X7_put hA hZ N _ _ _ _ e19) mf_X7_put km_X8_126 ⟨by decide, by decide⟩ ⟨rfl, rfl⟩ m3 rfl rfl rfl rfl (Nat.le_of_ble_eq_true rfl) ⟨Nat.zero_le _, Nat.zero_le _⟩ dX8_feed_54 ?_
    refine g_aload B dX8_feed_57 0 rfl ?_
    refine gt_X7_0 B m3 kf_X8_121 dX8_feed_59 ?_
    obtain ⟨rfl, rfl⟩ := some_e h
    exact g_iret B dX8_feed_62
  · have h := if_f h q4
    refine g_iconst (v := (-1 : Int32)) B dX8_feed_23 (by decide) ?_
    obtain ⟨rfl, rfl⟩ := some_e h
    exact g_iret B dX8_feed_24

def rm_X8_fault : Room := { frames := 0, cells := 0, slots := 0, locals := 0 }
def f_X8_fault (cs : List (Nat × Nat)) (N : Nat) (a1 : Int32) (S : HS) : Option (Int32 × HS) :=
  if a1 = (0 : Int32) then (
    ck (mc cs 0 0) (
    ck (mc cs 8 0) (
    some ((gi S 8 0 2), S))))
  else (
  if a1 = (1 : Int32) then (
    ck (mc cs 0 0) (
    ck (mc cs 8 0) (
    some ((gi S 8 0 3), S))))
  else (
  some ((-1 : Int32), S)))
set_option maxHeartbeats 4000000 in
set_option maxRecDepth 100000 in
theorem c_X8_fault {l : Launch} {D : va_G} {cy : Nat → ClassId} {cs : List (Nat × Nat)} {ad : Nat → Nat → Nat} {Zp : State → Prop} (hA : AdOk cs ad) (hZ : ZOk cs ad Zp) (N : Nat) (a1 : Int32) (S : HS) (r : Int32) (Z : HS) (h : f_X8_fault cs N a1 S = some (r, Z)) : Ctr Zp l yX8_fault cX8_fault 2 (some .int) rm_X8_fault D cy cs ad [.ref (ad 0 0), .int a1] S (some (.int r)) Z := by
  unfold f_X8_fault at h
  refine Ctr.of hA hZ RX8 (plainFor_of_name (by decide)) rfl [(0, .ref (ad 0 0)), (1, .int a1)] rfl (Nat.le_of_ble_eq_true rfl) (fun p e s m below meth c B => ?_)
  refine g_iload_n B dX8_fault_0 1 rfl rfl ?_
  by_cases q1 : a1 = (0 : Int32)
  · have h := if_t h q1
    refine g_lookup (off := 27) B 28 dX8_fault_1 (by decide) (by rw [q1]; decide) (by decide) ?_
    refine g_aload_n B dX8_fault_28 0 rfl rfl ?_
    obtain ⟨m2, h⟩ := ck_e h
    refine gt_X8_3 B m2 kf_X8_30 dX8_fault_29 ?_
    obtain ⟨m3, h⟩ := ck_e h
    refine gt_X1_2 B m3 kf_X8_136 dX8_fault_32 ?_
    obtain ⟨rfl, rfl⟩ := some_e h
    exact g_iret B dX8_fault_35
  have h := if_f h q1
  by_cases q4 : a1 = (1 : Int32)
  · have h := if_t h q4
    refine g_lookup (off := 35) B 36 dX8_fault_1 (by decide) (by rw [q4]; decide) (by decide) ?_
    refine g_aload_n B dX8_fault_36 0 rfl rfl ?_
    obtain ⟨m5, h⟩ := ck_e h
    refine gt_X8_3 B m5 kf_X8_30 dX8_fault_37 ?_
    obtain ⟨m6, h⟩ := ck_e h
    refine gt_X1_3 B m6 kf_X8_139 dX8_fault_40 ?_
    obtain ⟨rfl, rfl⟩ := some_e h
    exact g_iret B dX8_fault_43
  have h := if_f h q4
  refine g_lookup (off := 43) B 44 dX8_fault_1 (by decide) (by show Op.lookupswitch.offset [(0, 27), (1, 35)] 43 _ = _; rw [lv_osw q1 (by decide), lv_osw q4 (by decide)]; rfl) (by decide) ?_
  refine g_iconst (v := (-1 : Int32)) B dX8_fault_44 (by decide) ?_
  obtain ⟨rfl, rfl⟩ := some_e h
  exact g_iret B dX8_fault_45

def rm_X8_countOrders : Room := { frames := 0, cells := 0, slots := 0, locals := 0 }
def f_X8_countOrders_4 (cs : List (Nat × Nat)) (N : Nat)  : Nat → Int32 → Int32 → Int32 → HS → Option (Int32 × HS)
  | 0, _, _, _, _ => none
  | n + 1, v1, v2, v3, S =>
    ck (mc cs 0 0) (
    if (gi S 0 0 9) ≤ v3 then (
      some (v2, S))
    else (
      ck (mc cs 3 0) (
      ck (inb v3 7) (
      ck (mc cs 7 (v3.toNatClampNeg)) (
      if (gi S 7 (v3.toNatClampNeg) 8) = v1 then (
        lt_ (v2 + (1 : Int32)) (fun x9 =>
        lt_ (v3 + (1 : Int32)) (fun x11 =>
        f_X8_countOrders_4 cs N n v1 x9 x11 S)))
      else (
        lt_ (v3 + (1 : Int32)) (fun x7 =>
        f_X8_countOrders_4 cs N n v1 v2 x7 S)))))))
set_option maxHeartbeats 4000000 in
set_option maxRecDepth 100000 in
theorem b_X8_countOrders_4 {p : Program} {l : Launch} {e : Env} {s : State} {m : MethodId} {args : Array Value} {below : List Frame} {meth : Method} {c : Code} {D : va_G} {cy : Nat → ClassId} {cs : List (Nat × Nat)} {ad : Nat → Nat → Nat} {Zp : State → Prop} {r : Int32} {Z : HS} (B : Bd p s m args meth c D cy cs ad Zp cX8_countOrders 4 RX8 (some .int)) (N : Nat)  : ∀ (n : Nat) (v1 : Int32) (v2 : Int32) (v3 : Int32) (S : HS), f_X8_countOrders_4 cs N n v1 v2 v3 S = some (r, Z) → GW p l e rm_X8_countOrders s m args below meth c (QM below args s D cy cs ad (some (.int r)) Z) D cy cs ad 0 0 4 4 [(0, .ref (ad 0 0)), (1, .int v1), (2, .int v2), (3, .int v3)] [] S := by
  have hA := B.2.2.2.2.2.2.1
  have hZ := B.2.2.2.2.2.2.2.2.2.2
  intro n
  induction n with
  | zero => intro v1 v2 v3 S h; cases h
  | succ n ih =>
    intro v1 v2 v3 S h
    rw [f_X8_countOrders_4] at h
    refine g_iload_n B dX8_countOrders_4 3 rfl rfl ?_
    refine g_aload_n B dX8_countOrders_5 0 rfl rfl ?_
    obtain ⟨m1, h⟩ := ck_e h
    refine gt_X8_9 B m1 kf_X8_87 dX8_countOrders_6 ?_
    refine g_icmp_ge B 34 dX8_countOrders_9 (by decide) (fun q2 => ?_) (fun q2 => ?_)
    · have h := if_t h q2
      refine g_iload_n B dX8_countOrders_34 2 rfl rfl ?_
      obtain ⟨rfl, rfl⟩ := some_e h
      exact g_iret B dX8_countOrders_35
    · have h := if_f h q2
      refine g_aload_n B dX8_countOrders_12 0 rfl rfl ?_
      refine gt_X8_2 B m1 kf_X8_23 dX8_countOrders_13 ?_
      refine g_iload_n B dX8_countOrders_16 3 rfl rfl ?_
      obtain ⟨m3, h⟩ := ck_e h
      obtain ⟨b4, h⟩ := ck_e h
      refine g_aald (t0 := 6) (a := ad 7 (v3.toNatClampNeg)) B rfl rfl m3 rfl b4 rfl dX8_countOrders_17 ?_
      obtain ⟨m5, h⟩ := ck_e h
      refine gt_X6_8 B m5 kf_X8_90 dX8_countOrders_18 ?_
      refine g_iload_n B dX8_countOrders_21 1 rfl rfl ?_
      refine g_icmp_ne B 28 dX8_countOrders_22 (by decide) (fun q6 => ?_) (fun q6 => ?_)
      · have h := if_f h q6
        obtain ⟨x7, e8, h⟩ := lt_e h
        refine g_iinc (v := x7) (lv' := [(3, .int x7), (0, .ref (ad 0 0)), (1, .int v1), (2, .int v2)]) B dX8_countOrders_28 (k := 3) rfl (by rw [e8]; rfl) (by decide) rfl ?_
        refine g_goto B 4 dX8_countOrders_31 (by decide) ?_
        refine g_sub [1, 2, 3, 0] rfl ?_
        exact ih _ _ _ _ h
      · have h := if_t h q6
        obtain ⟨x9, e10, h⟩ := lt_e h
        refine g_iinc (v := x9) (lv' := [(2, .int x9), (0, .ref (ad 0 0)), (1, .int v1), (3, .int v3)]) B dX8_countOrders_25 (k := 2) rfl (by rw [e10]; rfl) (by decide) rfl ?_
        obtain ⟨x11, e12, h⟩ := lt_e h
        refine g_iinc (v := x11) (lv' := [(3, .int x11), (2, .int x9), (0, .ref (ad 0 0)), (1, .int v1)]) B dX8_countOrders_28 (k := 3) rfl (by rw [e12]; rfl) (by decide) rfl ?_
        refine g_goto B 4 dX8_countOrders_31 (by decide) ?_
        refine g_sub [2, 3, 1, 0] rfl ?_
        exact ih _ _ _ _ h
def f_X8_countOrders (cs : List (Nat × Nat)) (N : Nat) (a1 : Int32) (S : HS) : Option (Int32 × HS) :=
  f_X8_countOrders_4 cs N N a1 (0 : Int32) (0 : Int32) S
set_option maxHeartbeats 4000000 in
set_option maxRecDepth 100000 in
theorem c_X8_countOrders {l : Launch} {D : va_G} {cy : Nat → ClassId} {cs : List (Nat × Nat)} {ad : Nat → Nat → Nat} {Zp : State → Prop} (hA : AdOk cs ad) (hZ : ZOk cs ad Zp) (N : Nat) (a1 : Int32) (S : HS) (r : Int32) (Z : HS) (h : f_X8_countOrders cs N a1 S = some (r, Z)) : Ctr Zp l yX8_countOrders cX8_countOrders 4 (some .int) rm_X8_countOrders D cy cs ad [.ref (ad 0 0), .int a1] S (some (.int r)) Z := by
  unfold f_X8_countOrders at h
  refine Ctr.of hA hZ RX8 (plainFor_of_name (by decide)) rfl [(0, .ref (ad 0 0)), (1, .int a1)] rfl (Nat.le_of_ble_eq_true rfl) (fun p e s m below meth c B => ?_)
  refine g_iconst (v := (0 : Int32)) B dX8_countOrders_0 (by decide) ?_
  refine g_istore_n (lv' := [(2, .int (0 : Int32)), (0, .ref (ad 0 0)), (1, .int a1)]) B dX8_countOrders_1 rfl (by decide) rfl ?_
  refine g_iconst (v := (0 : Int32)) B dX8_countOrders_2 (by decide) ?_
  refine g_istore_n (lv' := [(3, .int (0 : Int32)), (2, .int (0 : Int32)), (0, .ref (ad 0 0)), (1, .int a1)]) B dX8_countOrders_3 rfl (by decide) rfl ?_
  refine g_sub [2, 3, 1, 0] rfl ?_
  exact b_X8_countOrders_4 B N N _ _ _ _ h

def rm_X8_isOrder : Room := { frames := 0, cells := 0, slots := 0, locals := 0 }
def f_X8_isOrder (cs : List (Nat × Nat)) (N : Nat) (a1 : Int32) (S : HS) : Option (Int32 × HS) :=
  if a1 < 0 then (
    some ((0 : Int32), S))
  else (
    ck (mc cs 0 0) (
    if (gi S 0 0 9) ≤ a1 then (
      some ((0 : Int32), S))
    else (
      some ((1 : Int32), S))))
set_option maxHeartbeats 4000000 in
set_option maxRecDepth 100000 in
theorem c_X8_isOrder {l : Launch} {D : va_G} {cy : Nat → ClassId} {cs : List (Nat × Nat)} {ad : Nat → Nat → Nat} {Zp : State → Prop} (hA : AdOk cs ad) (hZ : ZOk cs ad Zp) (N : Nat) (a1 : Int32) (S : HS) (r : Int32) (Z : HS) (h : f_X8_isOrder cs N a1 S = some (r, Z)) : Ctr Zp l yX8_isOrder cX8_isOrder 2 (some .boolean) rm_X8_isOrder D cy cs ad [.ref (ad 0 0), .int a1] S (some (.int r)) Z := by
  unfold f_X8_isOrder at h
  refine Ctr.of hA hZ RX8 (plainFor_of_name (by decide)) rfl [(0, .ref (ad 0 0)), (1, .int a1)] rfl (Nat.le_of_ble_eq_true rfl) (fun p e s m below meth c B => ?_)
  refine g_iload_n B dX8_isOrder_0 1 rfl rfl ?_
  refine g_if_lt B 16 dX8_isOrder_1 (by decide) (fun q1 => ?_) (fun q1 => ?_)
  · have h := if_t h q1
    refine g_iconst (v := (0 : Int32)) B dX8_isOrder_16 (by decide) ?_
    obtain ⟨rfl, rfl⟩ := some_e h
    exact g_zret B (by decide) dX8_isOrder_17
  · have h := if_f h q1
    refine g_iload_n B dX8_isOrder_4 1 rfl rfl ?_
    refine g_aload_n B dX8_isOrder_5 0 rfl rfl ?_
    obtain ⟨m2, h⟩ := ck_e h
    refine gt_X8_9 B m2 kf_X8_87 dX8_isOrder_6 ?_
    refine g_icmp_ge B 16 dX8_isOrder_9 (by decide) (fun q3 => ?_) (fun q3 => ?_)
    · have h := if_t h q3
      refine g_iconst (v := (0 : Int32)) B dX8_isOrder_16 (by decide) ?_
      obtain ⟨rfl, rfl⟩ := some_e h
      exact g_zret B (by decide) dX8_isOrder_17
    · have h := if_f h q3
      refine g_iconst (v := (1 : Int32)) B dX8_isOrder_12 (by decide) ?_
      refine g_goto B 17 dX8_isOrder_13 (by decide) ?_
      obtain ⟨rfl, rfl⟩ := some_e h
      exact g_zret B (by decide) dX8_isOrder_17

def rm_X8_isFamily : Room := { frames := 0, cells := 0, slots := 0, locals := 0 }
def f_X8_isFamily (cs : List (Nat × Nat)) (N : Nat) (a1 : Int32) (S : HS) : Option (Int32 × HS) :=
  if a1 < 0 then (
    some ((0 : Int32), S))
  else (
    if (4 : Int32) ≤ a1 then (
      some ((0 : Int32), S))
    else (
      some ((1 : Int32), S)))
set_option maxHeartbeats 4000000 in
set_option maxRecDepth 100000 in
theorem c_X8_isFamily {l : Launch} {D : va_G} {cy : Nat → ClassId} {cs : List (Nat × Nat)} {ad : Nat → Nat → Nat} {Zp : State → Prop} (hA : AdOk cs ad) (hZ : ZOk cs ad Zp) (N : Nat) (a1 : Int32) (S : HS) (r : Int32) (Z : HS) (h : f_X8_isFamily cs N a1 S = some (r, Z)) : Ctr Zp l yX8_isFamily cX8_isFamily 1 (some .boolean) rm_X8_isFamily D cy cs ad [.int a1] S (some (.int r)) Z := by
  unfold f_X8_isFamily at h
  refine Ctr.of hA hZ RX8 (plainFor_of_name (by decide)) rfl [(0, .int a1)] rfl (Nat.le_of_ble_eq_true rfl) (fun p e s m below meth c B => ?_)
  refine g_iload_n B dX8_isFamily_0 0 rfl rfl ?_
  refine g_if_lt B 13 dX8_isFamily_1 (by decide) (fun q1 => ?_) (fun q1 => ?_)
  · have h := if_t h q1
    refine g_iconst (v := (0 : Int32)) B dX8_isFamily_13 (by decide) ?_
    obtain ⟨rfl, rfl⟩ := some_e h
    exact g_zret B (by decide) dX8_isFamily_14
  · have h := if_f h q1
    refine g_iload_n B dX8_isFamily_4 0 rfl rfl ?_
    refine g_iconst (v := (4 : Int32)) B dX8_isFamily_5 (by decide) ?_
    refine g_icmp_ge B 13 dX8_isFamily_6 (by decide) (fun q2 => ?_) (fun q2 => ?_)
    · have h := if_t h q2
      refine g_iconst (v := (0 : Int32)) B dX8_isFamily_13 (by decide) ?_
      obtain ⟨rfl, rfl⟩ := some_e h
      exact g_zret B (by decide) dX8_isFamily_14
    · have h := if_f h q2
      refine g_iconst (v := (1 : Int32)) B dX8_isFamily_9 (by decide) ?_
      refine g_goto B 14 dX8_isFamily_10 (by decide) ?_
      obtain ⟨rfl, rfl⟩ := some_e h
      exact g_zret B (by decide) dX8_isFamily_14

def rm_X8_isPattern : Room := { frames := 0, cells := 0, slots := 0, locals := 0 }
def f_X8_isPattern (cs : List (Nat × Nat)) (N : Nat) (a1 : Int32) (S : HS) : Option (Int32 × HS) :=
  if a1 < 0 then (
    some ((0 : Int32), S))
  else (
    if (6 : Int32) ≤ a1 then (
      some ((0 : Int32), S))
    else (
      some ((1 : Int32), S)))
set_option maxHeartbeats 4000000 in
set_option maxRecDepth 100000 in
theorem c_X8_isPattern {l : Launch} {D : va_G} {cy : Nat → ClassId} {cs : List (Nat × Nat)} {ad : Nat → Nat → Nat} {Zp : State → Prop} (hA : AdOk cs ad) (hZ : ZOk cs ad Zp) (N : Nat) (a1 : Int32) (S : HS) (r : Int32) (Z : HS) (h : f_X8_isPattern cs N a1 S = some (r, Z)) : Ctr Zp l yX8_isPattern cX8_isPattern 1 (some .boolean) rm_X8_isPattern D cy cs ad [.int a1] S (some (.int r)) Z := by
  unfold f_X8_isPattern at h
  refine Ctr.of hA hZ RX8 (plainFor_of_name (by decide)) rfl [(0, .int a1)] rfl (Nat.le_of_ble_eq_true rfl) (fun p e s m below meth c B => ?_)
  refine g_iload_n B dX8_isPattern_0 0 rfl rfl ?_
  refine g_if_lt B 14 dX8_isPattern_1 (by decide) (fun q1 => ?_) (fun q1 => ?_)
  · have h := if_t h q1
    refine g_iconst (v := (0 : Int32)) B dX8_isPattern_14 (by decide) ?_
    obtain ⟨rfl, rfl⟩ := some_e h
    exact g_zret B (by decide) dX8_isPattern_15
  · have h := if_f h q1
    refine g_iload_n B dX8_isPattern_4 0 rfl rfl ?_
    refine g_bipush (v := (6 : Int32)) B dX8_isPattern_5 (by decide) ?_
    refine g_icmp_ge B 14 dX8_isPattern_7 (by decide) (fun q2 => ?_) (fun q2 => ?_)
    · have h := if_t h q2
      refine g_iconst (v := (0 : Int32)) B dX8_isPattern_14 (by decide) ?_
      obtain ⟨rfl, rfl⟩ := some_e h
      exact g_zret B (by decide) dX8_isPattern_15
    · have h := if_f h q2
      refine g_iconst (v := (1 : Int32)) B dX8_isPattern_10 (by decide) ?_
      refine g_goto B 15 dX8_isPattern_11 (by decide) ?_
      obtain ⟨rfl, rfl⟩ := some_e h
      exact g_zret B (by decide) dX8_isPattern_15

def rm_X8_isWithin : Room := { frames := 0, cells := 0, slots := 0, locals := 0 }
def f_X8_isWithin (cs : List (Nat × Nat)) (N : Nat) (a1 : Int32) (a2 : Int32) (a3 : Int32) (S : HS) : Option (Int32 × HS) :=
  if a1 < a2 then (
    some ((0 : Int32), S))
  else (
    if a3 < a1 then (
      some ((0 : Int32), S))
    else (
      some ((1 : Int32), S)))
set_option maxHeartbeats 4000000 in
set_option maxRecDepth 100000 in
theorem c_X8_isWithin {l : Launch} {D : va_G} {cy : Nat → ClassId} {cs : List (Nat × Nat)} {ad : Nat → Nat → Nat} {Zp : State → Prop} (hA : AdOk cs ad) (hZ : ZOk cs ad Zp) (N : Nat) (a1 : Int32) (a2 : Int32) (a3 : Int32) (S : HS) (r : Int32) (Z : HS) (h : f_X8_isWithin cs N a1 a2 a3 S = some (r, Z)) : Ctr Zp l yX8_isWithin cX8_isWithin 3 (some .boolean) rm_X8_isWithin D cy cs ad [.int a1, .int a2, .int a3] S (some (.int r)) Z := by
  unfold f_X8_isWithin at h
  refine Ctr.of hA hZ RX8 (plainFor_of_name (by decide)) rfl [(0, .int a1), (1, .int a2), (2, .int a3)] rfl (Nat.le_of_ble_eq_true rfl) (fun p e s m below meth c B => ?_)
  refine g_iload_n B dX8_isWithin_0 0 rfl rfl ?_
  refine g_iload_n B dX8_isWithin_1 1 rfl rfl ?_
  refine g_icmp_lt B 14 dX8_isWithin_2 (by decide) (fun q1 => ?_) (fun q1 => ?_)
  · have h := if_t h q1
    refine g_iconst (v := (0 : Int32)) B dX8_isWithin_14 (by decide) ?_
    obtain ⟨rfl, rfl⟩ := some_e h
    exact g_zret B (by decide) dX8_isWithin_15
  · have h := if_f h q1
    refine g_iload_n B dX8_isWithin_5 0 rfl rfl ?_
    refine g_iload_n B dX8_isWithin_6 2 rfl rfl ?_
    refine g_icmp_gt B 14 dX8_isWithin_7 (by decide) (fun q2 => ?_) (fun q2 => ?_)
    · have h := if_t h q2
      refine g_iconst (v := (0 : Int32)) B dX8_isWithin_14 (by decide) ?_
      obtain ⟨rfl, rfl⟩ := some_e h
      exact g_zret B (by decide) dX8_isWithin_15
    · have h := if_f h q2
      refine g_iconst (v := (1 : Int32)) B dX8_isWithin_10 (by decide) ?_
      refine g_goto B 15 dX8_isWithin_11 (by decide) ?_
      obtain ⟨rfl, rfl⟩ := some_e h
      exact g_zret B (by decide) dX8_isWithin_15

def rm_X9_isIn : Room := { frames := 0, cells := 0, slots := 0, locals := 0 }
def f_X9_isIn (cs : List (Nat × Nat)) (N : Nat) (a1 : Int32) (a2 : Int32) (a3 : Int32) (S : HS) : Option (Int32 × HS) :=
  if a1 < a2 then (
    some ((0 : Int32), S))
  else (
    if a3 < a1 then (
      some ((0 : Int32), S))
    else (
      some ((1 : Int32), S)))
set_option maxHeartbeats 4000000 in
set_option maxRecDepth 100000 in
theorem c_X9_isIn {l : Launch} {D : va_G} {cy : Nat → ClassId} {cs : List (Nat × Nat)} {ad : Nat → Nat → Nat} {Zp : State → Prop} (hA : AdOk cs ad) (hZ : ZOk cs ad Zp) (N : Nat) (a1 : Int32) (a2 : Int32) (a3 : Int32) (S : HS) (r : Int32) (Z : HS) (h : f_X9_isIn cs N a1 a2 a3 S = some (r, Z)) : Ctr Zp l yX9_isIn cX9_isIn 3 (some .boolean) rm_X9_isIn D cy cs ad [.int a1, .int a2, .int a3] S (some (.int r)) Z := by
  unfold f_X9_isIn at h
  refine Ctr.of hA hZ RX9 (plainFor_of_name (by decide)) rfl [(0, .int a1), (1, .int a2), (2, .int a3)] rfl (Nat.le_of_ble_eq_true rfl) (fun p e s m below meth c B => ?_)
  refine g_iload_n B dX9_isIn_0 0 rfl rfl ?_
  refine g_iload_n B dX9_isIn_1 1 rfl rfl ?_
  refine g_icmp_lt B 14 dX9_isIn_2 (by decide) (fun q1 => ?_) (fun q1 => ?_)
  · have h := if_t h q1
    refine g_iconst (v := (0 : Int32)) B dX9_isIn_14 (by decide) ?_
    obtain ⟨rfl, rfl⟩ := some_e h
    exact g_zret B (by decide) dX9_isIn_15
  · have h := if_f h q1
    refine g_iload_n B dX9_isIn_5 0 rfl rfl ?_
    refine g_iload_n B dX9_isIn_6 2 rfl rfl ?_
    refine g_icmp_gt B 14 dX9_isIn_7 (by decide) (fun q2 => ?_) (fun q2 => ?_)
    · have h := if_t h q2
      refine g_iconst (v := (0 : Int32)) B dX9_isIn_14 (by decide) ?_
      obtain ⟨rfl, rfl⟩ := some_e h
      exact g_zret B (by decide) dX9_isIn_15
    · have h := if_f h q2
      refine g_iconst (v := (1 : Int32)) B dX9_isIn_10 (by decide) ?_
      refine g_goto B 15 dX9_isIn_11 (by decide) ?_
      obtain ⟨rfl, rfl⟩ := some_e h
      exact g_zret B (by decide) dX9_isIn_15

def rm_X9_isFamily : Room := { frames := 1, cells := 0, slots := 0, locals := 22 }
def f_X9_isFamily (cs : List (Nat × Nat)) (N : Nat) (a1 : Int32) (S : HS) : Option (Int32 × HS) :=
  ob (f_X9_isIn cs N a1 (0 : Int32) (3 : Int32) S) (fun r1 S2 =>
  ck (b01 r1) (
  some (r1, S2)))
set_option maxHeartbeats 4000000 in
set_option maxRecDepth 100000 in
theorem c_X9_isFamily {l : Launch} {D : va_G} {cy : Nat → ClassId} {cs : List (Nat × Nat)} {ad : Nat → Nat → Nat} {Zp : State → Prop} (hA : AdOk cs ad) (hZ : ZOk cs ad Zp) (N : Nat) (a1 : Int32) (S : HS) (r : Int32) (Z : HS) (h : f_X9_isFamily cs N a1 S = some (r, Z)) : Ctr Zp l yX9_isFamily cX9_isFamily 1 (some .boolean) rm_X9_isFamily D cy cs ad [.int a1] S (some (.int r)) Z := by
  unfold f_X9_isFamily at h
  refine Ctr.of hA hZ RX9 (plainFor_of_name (by decide)) rfl [(0, .int a1)] rfl (Nat.le_of_ble_eq_true rfl) (fun p e s m below meth c B => ?_)
  refine g_iload_n B dX9_isFamily_0 0 rfl rfl ?_
  refine g_iconst (v := (0 : Int32)) B dX9_isFamily_1 (by decide) ?_
  refine g_iconst (v := (3 : Int32)) B dX9_isFamily_2 (by decide) ?_
  obtain ⟨r1, S2, e3, h⟩ := ob_e h
  refine g_csi (rest := []) B (c_X9_isIn hA hZ N _ _ _ _ _ _ e3) mf_X9_isIn km_X9_96 ⟨by decide, by decide⟩ ⟨rfl, rfl⟩ rfl rfl (Nat.le_of_ble_eq_true rfl) ⟨Nat.zero_le _, Nat.zero_le _⟩ dX9_isFamily_3 ?_
  obtain ⟨b4, h⟩ := ck_e h
  obtain ⟨rfl, rfl⟩ := some_e h
  exact g_zret B b4 dX9_isFamily_6

def rm_X9_isPattern : Room := { frames := 1, cells := 0, slots := 0, locals := 22 }
def f_X9_isPattern (cs : List (Nat × Nat)) (N : Nat) (a1 : Int32) (S : HS) : Option (Int32 × HS) :=
  ob (f_X9_isIn cs N a1 (0 : Int32) (5 : Int32) S) (fun r1 S2 =>
  ck (b01 r1) (
  some (r1, S2)))
set_option maxHeartbeats 4000000 in
set_option maxRecDepth 100000 in
theorem c_X9_isPattern {l : Launch} {D : va_G} {cy : Nat → ClassId} {cs : List (Nat × Nat)} {ad : Nat → Nat → Nat} {Zp : State → Prop} (hA : AdOk cs ad) (hZ : ZOk cs ad Zp) (N : Nat) (a1 : Int32) (S : HS) (r : Int32) (Z : HS) (h : f_X9_isPattern cs N a1 S = some (r, Z)) : Ctr Zp l yX9_isPattern cX9_isPattern 1 (some .boolean) rm_X9_isPattern D cy cs ad [.int a1] S (some (.int r)) Z := by
  unfold f_X9_isPattern at h
  refine Ctr.of hA hZ RX9 (plainFor_of_name (by decide)) rfl [(0, .int a1)] rfl (Nat.le_of_ble_eq_true rfl) (fun p e s m below meth c B => ?_)
  refine g_iload_n B dX9_isPattern_0 0 rfl rfl ?_
  refine g_iconst (v := (0 : Int32)) B dX9_isPattern_1 (by decide) ?_
  refine g_iconst (v := (5 : Int32)) B dX9_isPattern_2 (by decide) ?_
  obtain ⟨r1, S2, e3, h⟩ := ob_e h
  refine g_csi (rest := []) B (c_X9_isIn hA hZ N _ _ _ _ _ _ e3) mf_X9_isIn km_X9_96 ⟨by decide, by decide⟩ ⟨rfl, rfl⟩ rfl rfl (Nat.le_of_ble_eq_true rfl) ⟨Nat.zero_le _, Nat.zero_le _⟩ dX9_isPattern_3 ?_
  obtain ⟨b4, h⟩ := ck_e h
  obtain ⟨rfl, rfl⟩ := some_e h
  exact g_zret B b4 dX9_isPattern_6

def rm_X9_isWeek : Room := { frames := 1, cells := 0, slots := 0, locals := 22 }
def f_X9_isWeek (cs : List (Nat × Nat)) (N : Nat) (a1 : Int32) (a2 : Int32) (S : HS) : Option (Int32 × HS) :=
  ob (f_X9_isIn cs N a1 a2 (51 : Int32) S) (fun r1 S2 =>
  ck (b01 r1) (
  some (r1, S2)))
set_option maxHeartbeats 4000000 in
set_option maxRecDepth 100000 in
theorem c_X9_isWeek {l : Launch} {D : va_G} {cy : Nat → ClassId} {cs : List (Nat × Nat)} {ad : Nat → Nat → Nat} {Zp : State → Prop} (hA : AdOk cs ad) (hZ : ZOk cs ad Zp) (N : Nat) (a1 : Int32) (a2 : Int32) (S : HS) (r : Int32) (Z : HS) (h : f_X9_isWeek cs N a1 a2 S = some (r, Z)) : Ctr Zp l yX9_isWeek cX9_isWeek 2 (some .boolean) rm_X9_isWeek D cy cs ad [.int a1, .int a2] S (some (.int r)) Z := by
  unfold f_X9_isWeek at h
  refine Ctr.of hA hZ RX9 (plainFor_of_name (by decide)) rfl [(0, .int a1), (1, .int a2)] rfl (Nat.le_of_ble_eq_true rfl) (fun p e s m below meth c B => ?_)
  refine g_iload_n B dX9_isWeek_0 0 rfl rfl ?_
  refine g_iload_n B dX9_isWeek_1 1 rfl rfl ?_
  refine g_bipush (v := (51 : Int32)) B dX9_isWeek_2 (by decide) ?_
  obtain ⟨r1, S2, e3, h⟩ := ob_e h
  refine g_csi (rest := []) B (c_X9_isIn hA hZ N _ _ _ _ _ _ e3) mf_X9_isIn km_X9_96 ⟨by decide, by decide⟩ ⟨rfl, rfl⟩ rfl rfl (Nat.le_of_ble_eq_true rfl) ⟨Nat.zero_le _, Nat.zero_le _⟩ dX9_isWeek_4 ?_
  obtain ⟨b4, h⟩ := ck_e h
  obtain ⟨rfl, rfl⟩ := some_e h
  exact g_zret B b4 dX9_isWeek_7

def rm_X9_hours : Room := { frames := 2, cells := 0, slots := 0, locals := 43 }
def f_X9_hours (cs : List (Nat × Nat)) (N : Nat) (a1 : Int32) (a2 : Int32) (a3 : Int32) (S : HS) : Option (Int32 × HS) :=
  ob (f_X9_isFamily cs N a1 S) (fun r1 S2 =>
  if r1 = 0 then (
    some ((0 : Int32), S2))
  else (
    ck (mc cs 30 0) (
    ob (f_X9_isWeek cs N a2 (gi S2 30 0 0) S2) (fun r6 S7 =>
    if r6 = 0 then (
      some ((0 : Int32), S7))
    else (
      ob (f_X9_isIn cs N a3 (0 : Int32) (99 : Int32) S7) (fun r10 S11 =>
      if r10 = 0 then (
        some ((0 : Int32), S11))
      else (
        ck (mc cs 31 0) (
        ck (inb (((52 : Int32) * a1) + a2) 208) (
        lt_ (ui S11 31 0 (((52 : Int32) * a1) + a2).toNatClampNeg a3) (fun S16 =>
        some ((1 : Int32), S16)))))))))))
set_option maxHeartbeats 4000000 in
set_option maxRecDepth 100000 in
theorem c_X9_hours {l : Launch} {D : va_G} {cy : Nat → ClassId} {cs : List (Nat × Nat)} {ad : Nat → Nat → Nat} {Zp : State → Prop} (hA : AdOk cs ad) (hZ : ZOk cs ad Zp) (N : Nat) (a1 : Int32) (a2 : Int32) (a3 : Int32) (S : HS) (r : Int32) (Z : HS) (h : f_X9_hours cs N a1 a2 a3 S = some (r, Z)) : Ctr Zp l yX9_hours cX9_hours 4 (some .boolean) rm_X9_hours D cy cs ad [.ref (ad 30 0), .int a1, .int a2, .int a3] S (some (.int r)) Z := by
  unfold f_X9_hours at h
  refine Ctr.of hA hZ RX9 (plainFor_of_name (by decide)) rfl [(0, .ref (ad 30 0)), (1, .int a1), (2, .int a2), (3, .int a3)] rfl (Nat.le_of_ble_eq_true rfl) (fun p e s m below meth c B => ?_)
  refine g_iload_n B dX9_hours_0 1 rfl rfl ?_
  obtain ⟨r1, S2, e3, h⟩ := ob_e h
  refine g_csi (rest := []) B (c_X9_isFamily hA hZ N _ _ _ _ e3) mf_X9_isFamily km_X9_100 ⟨by decide, by decide⟩ ⟨rfl, rfl⟩ rfl rfl (Nat.le_of_ble_eq_true rfl) ⟨Nat.zero_le _, Nat.zero_le _⟩ dX9_hours_1 ?_
  refine g_if_eq B 28 dX9_hours_4 (by decide) (fun q4 => ?_) (fun q4 => ?_)
  · have h := if_t h q4
    refine g_iconst (v := (0 : Int32)) B dX9_hours_28 (by decide) ?_
    obtain ⟨rfl, rfl⟩ := some_e h
    exact g_zret B (by decide) dX9_hours_29
  · have h := if_f h q4
    refine g_iload_n B dX9_hours_7 2 rfl rfl ?_
    refine g_aload_n B dX9_hours_8 0 rfl rfl ?_
    obtain ⟨m5, h⟩ := ck_e h
    refine gt_X9_0 B m5 kf_X9_104 dX9_hours_9 ?_
    obtain ⟨r6, S7, e8, h⟩ := ob_e h
    refine g_csi (rest := []) B (c_X9_isWeek hA hZ N _ _ _ _ _ e8) mf_X9_isWeek km_X9_107 ⟨by decide, by decide⟩ ⟨rfl, rfl⟩ rfl rfl (Nat.le_of_ble_eq_true rfl) ⟨Nat.zero_le _, Nat.zero_le _⟩ dX9_hours_12 ?_
    refine g_if_eq B 28 dX9_hours_15 (by decide) (fun q9 => ?_) (fun q9 => ?_)
    · have h := if_t h q9
      refine g_iconst (v := (0 : Int32)) B dX9_hours_28 (by decide) ?_
      obtain ⟨rfl, rfl⟩ := some_e h
      exact g_zret B (by decide) dX9_hours_29
    · have h := if_f h q9
      refine g_iload_n B dX9_hours_18 3 rfl rfl ?_
      refine g_iconst (v := (0 : Int32)) B dX9_hours_19 (by decide) ?_
      refine g_bipush (v := (99 : Int32)) B dX9_hours_20 (by decide) ?_
      obtain ⟨r10, S11, e12, h⟩ := ob_e h
      refine g_csi (rest := []) B (c_X9_isIn hA hZ N _ _ _ _ _ _ e12) mf_X9_isIn km_X9_96 ⟨by decide, by decide⟩ ⟨rfl, rfl⟩ rfl rfl (Nat.le_of_ble_eq_true rfl) ⟨Nat.zero_le _, Nat.zero_le _⟩ dX9_hours_22 ?_
      refine g_if_ne B 30 dX9_hours_25 (by decide) (fun q13 => ?_) (fun q13 => ?_)
      · have h := if_f h q13
        refine g_aload_n B dX9_hours_30 0 rfl rfl ?_
        refine gt_X9_3 B m5 kf_X9_7 dX9_hours_31 ?_
        refine g_bipush (v := (52 : Int32)) B dX9_hours_34 (by decide) ?_
        refine g_iload_n B dX9_hours_36 1 rfl rfl ?_
        refine g_imul B dX9_hours_37 ?_
        refine g_iload_n B dX9_hours_38 2 rfl rfl ?_
        refine g_iadd B dX9_hours_39 ?_
        refine g_iload_n B dX9_hours_40 3 rfl rfl ?_
        obtain ⟨m14, h⟩ := ck_e h
        obtain ⟨b15, h⟩ := ck_e h
        obtain ⟨S16, e17, h⟩ := lt_e h
        refine g_iast (n := 208) B m14 b15 (fun _ => rfl) e17 dX9_hours_41 ?_
        refine g_iconst (v := (1 : Int32)) B dX9_hours_42 (by decide) ?_
        obtain ⟨rfl, rfl⟩ := some_e h
        exact g_zret B (by decide) dX9_hours_43
      · have h := if_t h q13
        refine g_iconst (v := (0 : Int32)) B dX9_hours_28 (by decide) ?_
        obtain ⟨rfl, rfl⟩ := some_e h
        exact g_zret B (by decide) dX9_hours_29
