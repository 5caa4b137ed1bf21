/-! ===== the pure part: pieces ===== -/
/-- all cells -/
def csF : List (Nat × Nat) := (List.range 33).flatMap fun c => (List.range (cnt c)).map fun k => (c, k)
theorem mc_csF (c k : Nat) (hc : c < 33) : mc csF c k = decide (k < cnt c) := by
  unfold mc
  by_cases h : k < cnt c
  · rw [decide_eq_true h, List.contains_iff_mem]
    exact List.mem_flatMap.mpr ⟨c, List.mem_range.mpr hc, List.mem_map.mpr ⟨k, List.mem_range.mpr h, rfl⟩⟩
  · rw [decide_eq_false h]
    apply Bool.eq_false_iff.mpr
    intro q
    rw [List.contains_iff_mem] at q
    obtain ⟨c', -, q⟩ := List.mem_flatMap.mp q
    obtain ⟨k', hk', q⟩ := List.mem_map.mp q
    cases q
    exact h (List.mem_range.mp hk')
theorem mF {c k : Nat} (hc : c < 33) (hk : k < cnt c) : mc csF c k = true := by rw [mc_csF c k hc, decide_eq_true hk]
theorem ob_s {α β : Type} (r : α) (s : HS) (k : α → HS → Option β) : ob (some (r, s)) k = k r s := rfl
theorem ck_t {α : Type} (x : Option α) : ck true x = x := rfl
theorem lt_s_ {α β : Type} (x : α) (k : α → β) : lt_ x k = k x := rfl
theorem gi_ui_s (S : HS) (c k j : Nat) (v : Int32) : gi (ui S c k j v) c k j = v := by simp [gi, ui, upd]
theorem gi_ui_c (S : HS) {c c' : Nat} (k j k' j' : Nat) (v : Int32) (h : c' ≠ c) : gi (ui S c k j v) c' k' j' = gi S c' k' j' := by simp [gi, ui, h]
theorem gi_ui_k (S : HS) (c c' : Nat) {k k' : Nat} (j j' : Nat) (v : Int32) (h : k' ≠ k) : gi (ui S c k j v) c' k' j' = gi S c' k' j' := by simp [gi, ui, h]
theorem gi_ui_j (S : HS) (c c' k k' : Nat) {j j' : Nat} (v : Int32) (h : j' ≠ j) : gi (ui S c k j v) c' k' j' = gi S c' k' j' := by
  unfold gi ui
  by_cases q : c' = c ∧ k' = k
  · obtain ⟨rfl, rfl⟩ := q
    simp [upd, h]
  · simp [q]
theorem gi_ui (S : HS) (c k j c' k' j' : Nat) (v : Int32) : gi (ui S c k j v) c' k' j' = if c' = c ∧ k' = k ∧ j' = j then v else gi S c' k' j' := by
  by_cases q : c' = c ∧ k' = k ∧ j' = j
  · obtain ⟨rfl, rfl, rfl⟩ := q
    simp [gi_ui_s]
  · rw [if_neg q]
    by_cases h1 : c' = c
    · by_cases h2 : k' = k
      · exact gi_ui_j _ _ _ _ _ _ (fun h3 => q ⟨h1, h2, h3⟩)
      · exact gi_ui_k _ _ _ _ _ _ h2
    · exact gi_ui_c _ _ _ _ _ _ h1
theorem gi_ul (S : HS) (c k j c' k' j' : Nat) (v : Int64) : gi (ul S c k j v) c' k' j' = gi S c' k' j' := rfl
theorem gl_ui (S : HS) (c k j c' k' j' : Nat) (v : Int32) : gl (ui S c k j v) c' k' j' = gl S c' k' j' := rfl
theorem gl_ul_s (S : HS) (c k j : Nat) (v : Int64) : gl (ul S c k j v) c k j = v := by simp [gl, ul, vp_updL]
theorem gl_ul (S : HS) (c k j c' k' j' : Nat) (v : Int64) : gl (ul S c k j v) c' k' j' = if c' = c ∧ k' = k ∧ j' = j then v else gl S c' k' j' := by
  unfold gl ul
  by_cases q : c' = c ∧ k' = k
  · obtain ⟨rfl, rfl⟩ := q
    by_cases h : j' = j <;> simp [vp_updL, h]
  · have q2 : ¬ (c' = c ∧ k' = k ∧ j' = j) := fun h => q ⟨h.1, h.2.1⟩
    simp [q, q2]
/-! whole numbers of 32 bits -/
theorem i_lt {x y : Int32} : x < y ↔ x.toInt < y.toInt := Int32.lt_iff_toInt_lt
theorem i_le {x y : Int32} : x ≤ y ↔ x.toInt ≤ y.toInt := Int32.le_iff_toInt_le
theorem i_eq {x y : Int32} : x = y ↔ x.toInt = y.toInt := Int32.toInt_inj.symm
theorem i_lo (x : Int32) : -2147483648 ≤ x.toInt := Int32.le_toInt x
theorem i_hi (x : Int32) : x.toInt < 2147483648 := Int32.toInt_lt x
theorem bm {x : Int} (h1 : -2147483648 ≤ x) (h2 : x < 2147483648) : x.bmod 4294967296 = x := by
  rw [Int.bmod_def]
  split <;> omega
theorem i_add {x y : Int32} (h1 : -2147483648 ≤ x.toInt + y.toInt) (h2 : x.toInt + y.toInt < 2147483648) : (x + y).toInt = x.toInt + y.toInt := by
  rw [Int32.toInt_add]; exact bm h1 h2
theorem i_sub {x y : Int32} (h1 : -2147483648 ≤ x.toInt - y.toInt) (h2 : x.toInt - y.toInt < 2147483648) : (x - y).toInt = x.toInt - y.toInt := by
  rw [Int32.toInt_sub]; exact bm h1 h2
theorem i_mul {x y : Int32} (h1 : -2147483648 ≤ x.toInt * y.toInt) (h2 : x.toInt * y.toInt < 2147483648) : (x * y).toInt = x.toInt * y.toInt := by
  rw [Int32.toInt_mul]; exact bm h1 h2
theorem cl_toNat (x : Int32) : x.toNatClampNeg = x.toInt.toNat := rfl
/-- lo ≤ a ≤ hi -/
def btw (lo a hi : Int32) : Prop := lo.toInt ≤ a.toInt ∧ a.toInt ≤ hi.toInt
theorem btw_dec (lo a hi : Int32) : btw lo a hi ∨ ¬ btw lo a hi := Classical.em _
noncomputable def bif_ {α : Type} (p : Prop) (x y : α) : α := @ite α p (Classical.propDecidable p) x y
theorem bif_t {α : Type} {p : Prop} (x y : α) (h : p) : bif_ p x y = x := by unfold bif_; exact if_pos h
theorem bif_f {α : Type} {p : Prop} (x y : α) (h : ¬ p) : bif_ p x y = y := by unfold bif_; exact if_neg h
theorem inb_of {i : Int32} {n : Nat} (h1 : 0 ≤ i.toInt) (h2 : i.toInt < n) : inb i n = true := by simp [inb, h1, h2]
theorem inb_nI {i n : Nat} (h : i < n) (hn : n < 2 ^ 31) : inb (nI i) n = true := by
  have := nI_toInt (n := i) (by omega)
  exact inb_of (by omega) (by omega)
theorem b01_0 : b01 0 = true := by decide
theorem b01_1 : b01 1 = true := by decide
/-! guards, in one form for both -/
theorem X8_isWithin_eq (cs : List (Nat × Nat)) (N : Nat) (a lo hi : Int32) (S : HS) : f_X8_isWithin cs N a lo hi S = some (bif_ (btw lo a hi) 1 0, S) := by
  unfold f_X8_isWithin
  by_cases h1 : a < lo
  · rw [if_pos h1, bif_f _ _ (fun h => by rw [i_lt] at h1; unfold btw at h; omega)]
  · rw [if_neg h1]
    by_cases h2 : hi < a
    · rw [if_pos h2, bif_f _ _ (fun h => by rw [i_lt] at h2; unfold btw at h; omega)]
    · rw [if_neg h2, bif_t _ _ (by rw [i_lt] at h1 h2; unfold btw; omega)]
theorem X9_isIn_eq (cs : List (Nat × Nat)) (N : Nat) (a lo hi : Int32) (S : HS) : f_X9_isIn cs N a lo hi S = some (bif_ (btw lo a hi) 1 0, S) := X8_isWithin_eq cs N a lo hi S
theorem X8_isFamily_eq (cs : List (Nat × Nat)) (N : Nat) (a : Int32) (S : HS) : f_X8_isFamily cs N a S = some (bif_ (btw 0 a 3) 1 0, S) := by
  unfold f_X8_isFamily
  by_cases h1 : a < 0
  · rw [if_pos h1, bif_f _ _ (fun h => by rw [i_lt] at h1; unfold btw at h; simp at h h1; omega)]
  · rw [if_neg h1]
    by_cases h2 : (4 : Int32) ≤ a
    · rw [if_pos h2, bif_f _ _ (fun h => by rw [i_le] at h2; unfold btw at h; simp at h h2; omega)]
    · rw [if_neg h2, bif_t _ _ (by rw [i_lt] at h1; rw [i_le] at h2; unfold btw; simp at h1 h2 ⊢; omega)]
theorem X8_isPattern_eq (cs : List (Nat × Nat)) (N : Nat) (a : Int32) (S : HS) : f_X8_isPattern cs N a S = some (bif_ (btw 0 a 5) 1 0, S) := by
  unfold f_X8_isPattern
  by_cases h1 : a < 0
  · rw [if_pos h1, bif_f _ _ (fun h => by rw [i_lt] at h1; unfold btw at h; simp at h h1; omega)]
  · rw [if_neg h1]
    by_cases h2 : (6 : Int32) ≤ a
    · rw [if_pos h2, bif_f _ _ (fun h => by rw [i_le] at h2; unfold btw at h; simp at h h2; omega)]
    · rw [if_neg h2, bif_t _ _ (by rw [i_lt] at h1; rw [i_le] at h2; unfold btw; simp at h1 h2 ⊢; omega)]
theorem b01_bif (p : Prop) : b01 (bif_ p 1 0) = true := by
  by_cases h : p
  · rw [bif_t _ _ h]; exact b01_1
  · rw [bif_f _ _ h]; exact b01_0
theorem X9_isFamily_eq (cs : List (Nat × Nat)) (N : Nat) (a : Int32) (S : HS) : f_X9_isFamily cs N a S = some (bif_ (btw 0 a 3) 1 0, S) := by
  unfold f_X9_isFamily; rw [X9_isIn_eq, ob_s, b01_bif]; rfl
theorem X9_isPattern_eq (cs : List (Nat × Nat)) (N : Nat) (a : Int32) (S : HS) : f_X9_isPattern cs N a S = some (bif_ (btw 0 a 5) 1 0, S) := by
  unfold f_X9_isPattern; rw [X9_isIn_eq, ob_s, b01_bif]; rfl
theorem X9_isWeek_eq (cs : List (Nat × Nat)) (N : Nat) (a b : Int32) (S : HS) : f_X9_isWeek cs N a b S = some (bif_ (btw b a 51) 1 0, S) := by
  unfold f_X9_isWeek; rw [X9_isIn_eq, ob_s, b01_bif]; rfl
theorem X8_isWeekToCome_eq (N : Nat) (a : Int32) (S : HS) : f_X8_isWeekToCome csF N a S = some (bif_ (btw (gi S 0 0 8) a 51) 1 0, S) := by
  unfold f_X8_isWeekToCome; rw [mF (by decide) (by decide), ck_t, X8_isWithin_eq, ob_s, b01_bif]; rfl
/-- a branch on such an answer -/
theorem if_bif {α : Type} (p : Prop) (x y : α) : (if (bif_ p 1 0 : Int32) = 0 then x else y) = bif_ p y x := by
  by_cases h : p
  · rw [bif_t _ _ h, bif_t _ _ h]; rfl
  · rw [bif_f _ _ h, bif_f _ _ h]; rfl
