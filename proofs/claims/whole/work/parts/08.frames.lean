/-- the places that a list of patterns (region, number, place) names -/
def pm (L : List (Nat × Option Nat × Option Nat)) (c k j : Nat) : Bool := L.any fun q => q.1 == c && ((match q.2.1 with
  | none => true
  | some a => a == k) && (match q.2.2 with
  | none => true
  | some a => a == j))
/-- nothing changed but at the places M -/
def Md (M : List (Nat × Option Nat × Option Nat)) (S Z : HS) : Prop := ∀ c k j, pm M c k j = false → Z.1 c k j = S.1 c k j ∧ Z.2 c k j = S.2 c k j
theorem Md.rf (M : List (Nat × Option Nat × Option Nat)) (S : HS) : Md M S S := fun _ _ _ _ => ⟨rfl, rfl⟩
theorem Md.trans {M : List (Nat × Option Nat × Option Nat)} {S T Z : HS} (h1 : Md M S T) (h2 : Md M T Z) : Md M S Z := fun c k j hc => ⟨(h2 c k j hc).1.trans (h1 c k j hc).1, (h2 c k j hc).2.trans (h1 c k j hc).2⟩
theorem pm_mono {M M' : List (Nat × Option Nat × Option Nat)} (hm : ∀ q ∈ M, q ∈ M') {c k j : Nat} (h : pm M' c k j = false) : pm M c k j = false := by
  unfold pm at h ⊢
  rw [List.any_eq_false] at h ⊢
  exact fun q hq => h q (hm q hq)
theorem Md.mono {M M' : List (Nat × Option Nat × Option Nat)} {S Z : HS} (h : Md M S Z) (hm : ∀ q ∈ M, q ∈ M') : Md M' S Z := fun c k j hc => h c k j (pm_mono hm hc)
theorem Md.ui {M : List (Nat × Option Nat × Option Nat)} {S T Z : HS} {c k j : Nat} {v : Int32} (h : Md M S T) (e : Z = ui T c k j v) (hc : pm M c k j = true) : Md M S Z := fun c' k' j' hc' => by
  subst e
  refine ⟨?_, (h c' k' j' hc').2⟩
  rw [← (h c' k' j' hc').1]
  unfold _root_.Jvm.Pilot.@@N@@.ui
  by_cases q : c' = c ∧ k' = k
  · obtain ⟨rfl, rfl⟩ := q
    have hj : j' ≠ j := fun q => by rw [q, hc] at hc'; cases hc'
    simp [upd, hj]
  · simp [q]
theorem Md.ul {M : List (Nat × Option Nat × Option Nat)} {S T Z : HS} {c k j : Nat} {v : Int64} (h : Md M S T) (e : Z = ul T c k j v) (hc : pm M c k j = true) : Md M S Z := fun c' k' j' hc' => by
  subst e
  refine ⟨(h c' k' j' hc').1, ?_⟩
  rw [← (h c' k' j' hc').2]
  unfold _root_.Jvm.Pilot.@@N@@.ul
  by_cases q : c' = c ∧ k' = k
  · obtain ⟨rfl, rfl⟩ := q
    have hj : j' ≠ j := fun q => by rw [q, hc] at hc'; cases hc'
    simp [vp_updL, hj]
  · simp [q]
theorem Md.gi {M : List (Nat × Option Nat × Option Nat)} {S Z : HS} (h : Md M S Z) (c k j : Nat) (hc : pm M c k j = false) : gi Z c k j = gi S c k j := (h c k j hc).1
theorem Md.gl {M : List (Nat × Option Nat × Option Nat)} {S Z : HS} (h : Md M S Z) (c k j : Nat) (hc : pm M c k j = false) : gl Z c k j = gl S c k j := (h c k j hc).2
theorem if_c {α : Type} {c : Prop} [Decidable c] {a b y : α} (h : (if c then a else b) = y) : (c ∧ a = y) ∨ (¬ c ∧ b = y) := by
  by_cases q : c
  · exact Or.inl ⟨q, if_t h q⟩
  · exact Or.inr ⟨q, if_f h q⟩

abbrev ml_J9_max_7cf53 : List (Nat × Option Nat × Option Nat) := []
theorem md_J9_max_7cf53 (cs : List (Nat × Nat)) (N : Nat) (a1 : Int32) (a2 : Int32) (S : HS) (r : Int32) (Z : HS) (h : f_J9_max_7cf53 cs N a1 a2 S = some (r, Z)) : Md ml_J9_max_7cf53 S Z := by
  unfold f_J9_max_7cf53 at h
  have g := Md.rf ml_J9_max_7cf53 S
  rcases if_c h with ⟨-, h⟩ | ⟨-, h⟩
  · obtain ⟨-, rfl⟩ := some_e h
    exact g
  · obtain ⟨-, rfl⟩ := some_e h
    exact g

abbrev ml_J9_min_7cf53 : List (Nat × Option Nat × Option Nat) := []
theorem md_J9_min_7cf53 (cs : List (Nat × Nat)) (N : Nat) (a1 : Int32) (a2 : Int32) (S : HS) (r : Int32) (Z : HS) (h : f_J9_min_7cf53 cs N a1 a2 S = some (r, Z)) : Md ml_J9_min_7cf53 S Z := by
  unfold f_J9_min_7cf53 at h
  have g := Md.rf ml_J9_min_7cf53 S
  rcases if_c h with ⟨-, h⟩ | ⟨-, h⟩
  · obtain ⟨-, rfl⟩ := some_e h
    exact g
  · obtain ⟨-, rfl⟩ := some_e h
    exact g

abbrev ml_J3_checkIndex_8e157 : List (Nat × Option Nat × Option Nat) := []
theorem md_J3_checkIndex_8e157_9 {r : Int32} {Z : HS} (cs : List (Nat × Nat)) (N : Nat)  (v0 : Int32) (v1 : Int32) (S : HS) (h : f_J3_checkIndex_8e157_9 cs N v0 v1 S = some (r, Z)) : Md ml_J3_checkIndex_8e157 S Z := by
  unfold f_J3_checkIndex_8e157_9 at h
  have g := Md.rf ml_J3_checkIndex_8e157 S
  cases h
theorem md_J3_checkIndex_8e157 (cs : List (Nat × Nat)) (N : Nat) (a1 : Int32) (a2 : Int32) (S : HS) (r : Int32) (Z : HS) (h : f_J3_checkIndex_8e157 cs N a1 a2 S = some (r, Z)) : Md ml_J3_checkIndex_8e157 S Z := by
  unfold f_J3_checkIndex_8e157 at h
  have g := Md.rf ml_J3_checkIndex_8e157 S
  rcases if_c h with ⟨-, h⟩ | ⟨-, h⟩
  · exact g.trans (md_J3_checkIndex_8e157_9 _ _ _ _ _ h)
  · rcases if_c h with ⟨-, h⟩ | ⟨-, h⟩
    · obtain ⟨-, rfl⟩ := some_e h
      exact g
    · exact g.trans (md_J3_checkIndex_8e157_9 _ _ _ _ _ h)

abbrev ml_J0_checkIndex_df160 : List (Nat × Option Nat × Option Nat) := []
theorem md_J0_checkIndex_df160 (cs : List (Nat × Nat)) (N : Nat) (a1 : Int32) (a2 : Int32) (S : HS) (r : Unit) (Z : HS) (h : f_J0_checkIndex_df160 cs N a1 a2 S = some (r, Z)) : Md ml_J0_checkIndex_df160 S Z := by
  unfold f_J0_checkIndex_df160 at h
  have g := Md.rf ml_J0_checkIndex_df160 S
  obtain ⟨r1, S2, e9, h⟩ := ob_e h
  have g := g.trans ((md_J3_checkIndex_8e157 _ _ _ _ _ _ _ e9).mono (by decide))
  obtain ⟨-, rfl⟩ := some_e h
  exact g

abbrev ml_J0_coder_7d493 : List (Nat × Option Nat × Option Nat) := []
theorem md_J0_coder_7d493 (cs : List (Nat × Nat)) (N : Nat) (k : Nat) (S : HS) (r : Int32) (Z : HS) (h : f_J0_coder_7d493 cs N k S = some (r, Z)) : Md ml_J0_coder_7d493 S Z := by
  unfold f_J0_coder_7d493 at h
  have g := Md.rf ml_J0_coder_7d493 S
  rcases if_c h with ⟨-, h⟩ | ⟨-, h⟩
  · obtain ⟨-, rfl⟩ := some_e h
    exact g
  · obtain ⟨-, h⟩ := ck_e h
    obtain ⟨-, rfl⟩ := some_e h
    exact g

abbrev ml_J0_isLatin1_aae02 : List (Nat × Option Nat × Option Nat) := []
theorem md_J0_isLatin1_aae02 (cs : List (Nat × Nat)) (N : Nat) (k : Nat) (S : HS) (r : Int32) (Z : HS) (h : f_J0_isLatin1_aae02 cs N k S = some (r, Z)) : Md ml_J0_isLatin1_aae02 S Z := by
  unfold f_J0_isLatin1_aae02 at h
  have g := Md.rf ml_J0_isLatin1_aae02 S
  rcases if_c h with ⟨-, h⟩ | ⟨-, h⟩
  · obtain ⟨-, rfl⟩ := some_e h
    exact g
  · obtain ⟨-, h⟩ := ck_e h
    rcases if_c h with ⟨-, h⟩ | ⟨-, h⟩
    · obtain ⟨-, rfl⟩ := some_e h
      exact g
    · obtain ⟨-, rfl⟩ := some_e h
      exact g

abbrev ml_J0_length_8abf5 : List (Nat × Option Nat × Option Nat) := []
theorem md_J0_length_8abf5 (cs : List (Nat × Nat)) (N : Nat) (k : Nat) (S : HS) (r : Int32) (Z : HS) (h : f_J0_length_8abf5 cs N k S = some (r, Z)) : Md ml_J0_length_8abf5 S Z := by
  unfold f_J0_length_8abf5 at h
  have g := Md.rf ml_J0_length_8abf5 S
  obtain ⟨-, h⟩ := ck_e h
  obtain ⟨r2, S3, e9, h⟩ := ob_e h
  have g := g.trans ((md_J0_coder_7d493 _ _ _ _ _ _ e9).mono (by decide))
  obtain ⟨-, rfl⟩ := some_e h
  exact g

abbrev ml_J1_charAt_3b067 : List (Nat × Option Nat × Option Nat) := []
theorem md_J1_charAt_3b067 (cs : List (Nat × Nat)) (N : Nat) (a1 : Nat) (a2 : Int32) (S : HS) (r : Int32) (Z : HS) (h : f_J1_charAt_3b067 cs N a1 a2 S = some (r, Z)) : Md ml_J1_charAt_3b067 S Z := by
  unfold f_J1_charAt_3b067 at h
  have g := Md.rf ml_J1_charAt_3b067 S
  obtain ⟨-, h⟩ := ck_e h
  obtain ⟨r2, S3, e9, h⟩ := ob_e h
  have g := g.trans ((md_J0_checkIndex_df160 _ _ _ _ _ _ _ e9).mono (by decide))
  obtain ⟨-, h⟩ := ck_e h
  obtain ⟨-, h⟩ := ck_e h
  obtain ⟨-, rfl⟩ := some_e h
  exact g

abbrev ml_J0_charAt_5068e : List (Nat × Option Nat × Option Nat) := []
theorem md_J0_charAt_5068e (cs : List (Nat × Nat)) (N : Nat) (k : Nat) (a1 : Int32) (S : HS) (r : Int32) (Z : HS) (h : f_J0_charAt_5068e cs N k a1 S = some (r, Z)) : Md ml_J0_charAt_5068e S Z := by
  unfold f_J0_charAt_5068e at h
  have g := Md.rf ml_J0_charAt_5068e S
  obtain ⟨-, h⟩ := ck_e h
  obtain ⟨r2, S3, e9, h⟩ := ob_e h
  have g := g.trans ((md_J0_isLatin1_aae02 _ _ _ _ _ _ e9).mono (by decide))
  rcases if_c h with ⟨-, h⟩ | ⟨-, h⟩
  · cases h
  · obtain ⟨r6, S7, e9, h⟩ := ob_e h
    have g := g.trans ((md_J1_charAt_3b067 _ _ _ _ _ _ _ e9).mono (by decide))
    obtain ⟨-, h⟩ := ck_e h
    obtain ⟨-, rfl⟩ := some_e h
    exact g

abbrev ml_X1_formOf : List (Nat × Option Nat × Option Nat) := []
theorem md_X1_formOf (cs : List (Nat × Nat)) (N : Nat) (a1 : Int32) (S : HS) (r : Nat) (Z : HS) (h : f_X1_formOf cs N a1 S = some (r, Z)) : Md ml_X1_formOf S Z := by
  unfold f_X1_formOf at h
  have g := Md.rf ml_X1_formOf S
  rcases if_c h with ⟨-, h⟩ | ⟨-, h⟩
  · obtain ⟨-, rfl⟩ := some_e h
    exact g
  · rcases if_c h with ⟨-, h⟩ | ⟨-, h⟩
    · obtain ⟨-, rfl⟩ := some_e h
      exact g
    · rcases if_c h with ⟨-, h⟩ | ⟨-, h⟩
      · obtain ⟨-, rfl⟩ := some_e h
        exact g
      · obtain ⟨-, rfl⟩ := some_e h
        exact g

abbrev ml_X1_leastOf : List (Nat × Option Nat × Option Nat) := []
theorem md_X1_leastOf (cs : List (Nat × Nat)) (N : Nat) (a1 : Int32) (S : HS) (r : Int32) (Z : HS) (h : f_X1_leastOf cs N a1 S = some (r, Z)) : Md ml_X1_leastOf S Z := by
  unfold f_X1_leastOf at h
  have g := Md.rf ml_X1_leastOf S
  rcases if_c h with ⟨-, h⟩ | ⟨-, h⟩
  · obtain ⟨-, h⟩ := ck_e h
    obtain ⟨-, h⟩ := ck_e h
    obtain ⟨-, h⟩ := ck_e h
    obtain ⟨-, rfl⟩ := some_e h
    exact g
  · obtain ⟨-, rfl⟩ := some_e h
    exact g

abbrev ml_X1_mostOf : List (Nat × Option Nat × Option Nat) := []
theorem md_X1_mostOf (cs : List (Nat × Nat)) (N : Nat) (a1 : Int32) (S : HS) (r : Int32) (Z : HS) (h : f_X1_mostOf cs N a1 S = some (r, Z)) : Md ml_X1_mostOf S Z := by
  unfold f_X1_mostOf at h
  have g := Md.rf ml_X1_mostOf S
  rcases if_c h with ⟨-, h⟩ | ⟨-, h⟩
  · obtain ⟨-, rfl⟩ := some_e h
    exact g
  · rcases if_c h with ⟨-, h⟩ | ⟨-, h⟩
    · obtain ⟨-, rfl⟩ := some_e h
      exact g
    · obtain ⟨-, rfl⟩ := some_e h
      exact g

abbrev ml_X1_stopAt : List (Nat × Option Nat × Option Nat) := [(8, some 0, some 2), (8, some 0, some 3)]
theorem md_X1_stopAt (cs : List (Nat × Nat)) (N : Nat) (a1 : Int32) (S : HS) (r : Int32) (Z : HS) (h : f_X1_stopAt cs N a1 S = some (r, Z)) : Md ml_X1_stopAt S Z := by
  unfold f_X1_stopAt at h
  have g := Md.rf ml_X1_stopAt S
  obtain ⟨-, h⟩ := ck_e h
  obtain ⟨S2, e9, h⟩ := lt_e h
  have g := g.ui e9 rfl
  obtain ⟨-, h⟩ := ck_e h
  obtain ⟨S5, e9, h⟩ := lt_e h
  have g := g.ui e9 rfl
  obtain ⟨-, rfl⟩ := some_e h
  exact g

abbrev ml_X3_grossToMake : List (Nat × Option Nat × Option Nat) := []
theorem md_X3_grossToMake_2 {r : Int32} {Z : HS} (cs : List (Nat × Nat)) (N : Nat)  : ∀ (n : Nat) (k0 : Nat) (v1 : Int32) (v2 : Int32) (S : HS), f_X3_grossToMake_2 cs N n k0 v1 v2 S = some (r, Z) → Md ml_X3_grossToMake S Z := by
  intro n
  induction n with
  | zero => intro k0 v1 v2 S h; cases h
  | succ n ih =>
    intro k0 v1 v2 S h
    rw [f_X3_grossToMake_2] at h
    have g := Md.rf ml_X3_grossToMake S
    rcases if_c h with ⟨-, h⟩ | ⟨-, h⟩
    · obtain ⟨-, rfl⟩ := some_e h
      exact g
    · obtain ⟨-, h⟩ := ck_e h
      obtain ⟨x3, -, h⟩ := lt_e h
      rcases if_c h with ⟨-, h⟩ | ⟨-, h⟩
      · obtain ⟨x6, -, h⟩ := lt_e h
        exact g.trans (ih _ _ _ _ h)
      · obtain ⟨-, rfl⟩ := some_e h
        exact g
theorem md_X3_grossToMake (cs : List (Nat × Nat)) (N : Nat) (k : Nat) (a1 : Int32) (S : HS) (r : Int32) (Z : HS) (h : f_X3_grossToMake cs N k a1 S = some (r, Z)) : Md ml_X3_grossToMake S Z := by
  unfold f_X3_grossToMake at h
  have g := Md.rf ml_X3_grossToMake S
  exact g.trans (md_X3_grossToMake_2 _ _ _ _ _ _ _ h)

abbrev ml_X4_lineUp : List (Nat × Option Nat × Option Nat) := [(12, some 0, some 6), (13, some 3, none)]
theorem md_X4_lineUp_77 {r : Unit} {Z : HS} (cs : List (Nat × Nat)) (N : Nat) (K7 : Int32 → Int32 → HS → Option (Unit × HS)) (hK7 : ∀ (v2 : Int32) (v3 : Int32) (S : HS), K7 v2 v3 S = some (r, Z) → Md ml_X4_lineUp S Z) (v2 : Int32) (v3 : Int32) (v4 : Int32) (S : HS) (h : f_X4_lineUp_77 cs N K7 v2 v3 v4 S = some (r, Z)) : Md ml_X4_lineUp S Z := by
  unfold f_X4_lineUp_77 at h
  have g := Md.rf ml_X4_lineUp S
  obtain ⟨-, h⟩ := ck_e h
  obtain ⟨-, h⟩ := ck_e h
  obtain ⟨-, h⟩ := ck_e h
  obtain ⟨S4, e9, h⟩ := lt_e h
  have g := g.ui e9 rfl
  obtain ⟨S6, e9, h⟩ := lt_e h
  have g := g.ui e9 rfl
  obtain ⟨x8, -, h⟩ := lt_e h
  exact g.trans (hK7 _ _ _ h)
theorem md_X4_lineUp_27 {r : Unit} {Z : HS} (cs : List (Nat × Nat)) (N : Nat) (K7 : Int32 → Int32 → HS → Option (Unit × HS)) (hK7 : ∀ (v2 : Int32) (v3 : Int32) (S : HS), K7 v2 v3 S = some (r, Z) → Md ml_X4_lineUp S Z) : ∀ (n : Nat) (v2 : Int32) (v3 : Int32) (v4 : Int32) (S : HS), f_X4_lineUp_27 cs N K7 n v2 v3 v4 S = some (r, Z) → Md ml_X4_lineUp S Z := by
  intro n
  induction n with
  | zero => intro v2 v3 v4 S h; cases h
  | succ n ih =>
    intro v2 v3 v4 S h
    rw [f_X4_lineUp_27] at h
    have g := Md.rf ml_X4_lineUp S
    rcases if_c h with ⟨-, h⟩ | ⟨-, h⟩
    · exact g.trans (md_X4_lineUp_77 _ _ _ hK7 _ _ _ _ h)
    · obtain ⟨-, h⟩ := ck_e h
      obtain ⟨-, h⟩ := ck_e h
      obtain ⟨-, h⟩ := ck_e h
      obtain ⟨-, h⟩ := ck_e h
      obtain ⟨-, h⟩ := ck_e h
      obtain ⟨-, h⟩ := ck_e h
      obtain ⟨-, h⟩ := ck_e h
      obtain ⟨-, h⟩ := ck_e h
      rcases if_c h with ⟨-, h⟩ | ⟨-, h⟩
      · exact g.trans (md_X4_lineUp_77 _ _ _ hK7 _ _ _ _ h)
      · obtain ⟨-, h⟩ := ck_e h
        obtain ⟨-, h⟩ := ck_e h
        obtain ⟨S13, e9, h⟩ := lt_e h
        have g := g.ui e9 rfl
        obtain ⟨x15, -, h⟩ := lt_e h
        exact g.trans (ih _ _ _ _ h)
theorem md_X4_lineUp_7 {r : Unit} {Z : HS} (cs : List (Nat × Nat)) (N : Nat)  : ∀ (n : Nat) (v2 : Int32) (v3 : Int32) (S : HS), f_X4_lineUp_7 cs N n v2 v3 S = some (r, Z) → Md ml_X4_lineUp S Z := by
  intro n
  induction n with
  | zero => intro v2 v3 S h; cases h
  | succ n ih =>
    intro v2 v3 S h
    rw [f_X4_lineUp_7] at h
    have g := Md.rf ml_X4_lineUp S
    rcases if_c h with ⟨-, h⟩ | ⟨-, h⟩
    · obtain ⟨-, rfl⟩ := some_e h
      exact g
    · obtain ⟨-, h⟩ := ck_e h
      obtain ⟨-, h⟩ := ck_e h
      obtain ⟨-, h⟩ := ck_e h
      rcases if_c h with ⟨-, h⟩ | ⟨-, h⟩
      · obtain ⟨-, h⟩ := ck_e h
        obtain ⟨x9, -, h⟩ := lt_e h
        exact g.trans (md_X4_lineUp_27 _ _ _ ih _ _ _ _ _ h)
      · obtain ⟨x6, -, h⟩ := lt_e h
        exact g.trans (ih _ _ _ h)
theorem md_X4_lineUp (cs : List (Nat × Nat)) (N : Nat) (a2 : Int32) (S : HS) (r : Unit) (Z : HS) (h : f_X4_lineUp cs N a2 S = some (r, Z)) : Md ml_X4_lineUp S Z := by
  unfold f_X4_lineUp at h
  have g := Md.rf ml_X4_lineUp S
  obtain ⟨-, h⟩ := ck_e h
  obtain ⟨S2, e9, h⟩ := lt_e h
  have g := g.ui e9 rfl
  exact g.trans (md_X4_lineUp_7 _ _ _ _ _ _ h)

abbrev ml_X4_startAt : List (Nat × Option Nat × Option Nat) := [(15, some 0, none), (16, some 0, none), (16, some 1, none), (16, some 2, none), (17, some 0, none)]
theorem md_X4_startAt (cs : List (Nat × Nat)) (N : Nat) (a1 : Nat) (a2 : Int32) (S : HS) (r : Unit) (Z : HS) (h : f_X4_startAt cs N a1 a2 S = some (r, Z)) : Md ml_X4_startAt S Z := by
  unfold f_X4_startAt at h
  have g := Md.rf ml_X4_startAt S
  obtain ⟨-, h⟩ := ck_e h
  obtain ⟨-, h⟩ := ck_e h
  obtain ⟨-, h⟩ := ck_e h
  obtain ⟨S4, e9, h⟩ := lt_e h
  have g := g.ui e9 rfl
  obtain ⟨-, h⟩ := ck_e h
  obtain ⟨-, h⟩ := ck_e h
  obtain ⟨S8, e9, h⟩ := lt_e h
  have g := g.ui e9 rfl
  obtain ⟨-, h⟩ := ck_e h
  obtain ⟨-, h⟩ := ck_e h
  obtain ⟨-, h⟩ := ck_e h
  obtain ⟨-, h⟩ := ck_e h
  obtain ⟨-, h⟩ := ck_e h
  obtain ⟨S15, e9, h⟩ := lt_e h
  have g := g.ui e9 rfl
  obtain ⟨-, h⟩ := ck_e h
  obtain ⟨-, h⟩ := ck_e h
  obtain ⟨S19, e9, h⟩ := lt_e h
  have g := g.ui e9 rfl
  obtain ⟨-, h⟩ := ck_e h
  obtain ⟨-, h⟩ := ck_e h
  obtain ⟨S23, e9, h⟩ := lt_e h
  have g := g.ul e9 rfl
  obtain ⟨-, rfl⟩ := some_e h
  exact g

abbrev ml_X4_shareAlsoWith : List (Nat × Option Nat × Option Nat) := [(17, some 1, none), (19, none, none)]
theorem md_X4_shareAlsoWith_26 {r : Unit} {Z : HS} (cs : List (Nat × Nat)) (N : Nat) (K9 : Int32 → Int32 → HS → Option (Unit × HS)) (hK9 : ∀ (v1 : Int32) (v2 : Int32) (S : HS), K9 v1 v2 S = some (r, Z) → Md ml_X4_shareAlsoWith S Z) : ∀ (n : Nat) (v1 : Int32) (v2 : Int32) (v3 : Int64) (v5 : Int32) (v6 : Int32) (S : HS), f_X4_shareAlsoWith_26 cs N K9 n v1 v2 v3 v5 v6 S = some (r, Z) → Md ml_X4_shareAlsoWith S Z := by
  intro n
  induction n with
  | zero => intro v1 v2 v3 v5 v6 S h; cases h
  | succ n ih =>
    intro v1 v2 v3 v5 v6 S h
    rw [f_X4_shareAlsoWith_26] at h
    have g := Md.rf ml_X4_shareAlsoWith S
    rcases if_c h with ⟨-, h⟩ | ⟨-, h⟩
    · obtain ⟨-, h⟩ := ck_e h
      obtain ⟨-, h⟩ := ck_e h
      obtain ⟨-, h⟩ := ck_e h
      obtain ⟨S5, e9, h⟩ := lt_e h
      have g := g.ul e9 rfl
      obtain ⟨-, h⟩ := ck_e h
      obtain ⟨-, h⟩ := ck_e h
      obtain ⟨-, h⟩ := ck_e h
      obtain ⟨-, h⟩ := ck_e h
      obtain ⟨S11, e9, h⟩ := lt_e h
      have g := g.ui e9 rfl
      obtain ⟨x13, -, h⟩ := lt_e h
      exact g.trans (hK9 _ _ _ h)
    · rcases if_c h with ⟨-, h⟩ | ⟨-, h⟩
      · obtain ⟨-, h⟩ := ck_e h
        obtain ⟨-, h⟩ := ck_e h
        obtain ⟨-, h⟩ := ck_e h
        rcases if_c h with ⟨-, h⟩ | ⟨-, h⟩
        · obtain ⟨x22, -, h⟩ := lt_e h
          exact g.trans (ih _ _ _ _ _ _ h)
        · obtain ⟨-, h⟩ := ck_e h
          obtain ⟨-, h⟩ := ck_e h
          obtain ⟨-, h⟩ := ck_e h
          obtain ⟨-, h⟩ := ck_e h
          rcases if_c h with ⟨-, h⟩ | ⟨-, h⟩
          · obtain ⟨x29, -, h⟩ := lt_e h
            exact g.trans (ih _ _ _ _ _ _ h)
          · obtain ⟨-, h⟩ := ck_e h
            obtain ⟨-, h⟩ := ck_e h
            obtain ⟨x33, -, h⟩ := lt_e h
            obtain ⟨x35, -, h⟩ := lt_e h
            exact g.trans (ih _ _ _ _ _ _ h)
      · obtain ⟨x16, -, h⟩ := lt_e h
        exact g.trans (ih _ _ _ _ _ _ h)
theorem md_X4_shareAlsoWith_9 {r : Unit} {Z : HS} (cs : List (Nat × Nat)) (N : Nat)  : ∀ (n : Nat) (v1 : Int32) (v2 : Int32) (S : HS), f_X4_shareAlsoWith_9 cs N n v1 v2 S = some (r, Z) → Md ml_X4_shareAlsoWith S Z := by
  intro n
  induction n with
  | zero => intro v1 v2 S h; cases h
  | succ n ih =>
    intro v1 v2 S h
    rw [f_X4_shareAlsoWith_9] at h
    have g := Md.rf ml_X4_shareAlsoWith S
    rcases if_c h with ⟨-, h⟩ | ⟨-, h⟩
    · obtain ⟨-, rfl⟩ := some_e h
      exact g
    · obtain ⟨-, h⟩ := ck_e h
      obtain ⟨-, h⟩ := ck_e h
      obtain ⟨-, h⟩ := ck_e h
      obtain ⟨x5, -, h⟩ := lt_e h
      exact g.trans (md_X4_shareAlsoWith_26 _ _ _ ih _ _ _ _ _ _ _ h)
theorem md_X4_shareAlsoWith (cs : List (Nat × Nat)) (N : Nat) (a1 : Int32) (S : HS) (r : Unit) (Z : HS) (h : f_X4_shareAlsoWith cs N a1 S = some (r, Z)) : Md ml_X4_shareAlsoWith S Z := by
  unfold f_X4_shareAlsoWith at h
  have g := Md.rf ml_X4_shareAlsoWith S
  obtain ⟨-, h⟩ := ck_e h
  obtain ⟨x2, -, h⟩ := lt_e h
  exact g.trans (md_X4_shareAlsoWith_9 _ _ _ _ _ _ h)

abbrev ml_X5_give : List (Nat × Option Nat × Option Nat) := [(21, none, none), (23, none, none)]
theorem md_X5_give_9 {r : Unit} {Z : HS} (cs : List (Nat × Nat)) (N : Nat)  : ∀ (n : Nat) (k0 : Nat) (v1 : Int32) (v3 : Int32) (S : HS), f_X5_give_9 cs N n k0 v1 v3 S = some (r, Z) → Md ml_X5_give S Z := by
  intro n
  induction n with
  | zero => intro k0 v1 v3 S h; cases h
  | succ n ih =>
    intro k0 v1 v3 S h
    rw [f_X5_give_9] at h
    have g := Md.rf ml_X5_give S
    rcases if_c h with ⟨-, h⟩ | ⟨-, h⟩
    · obtain ⟨-, rfl⟩ := some_e h
      exact g
    · obtain ⟨-, h⟩ := ck_e h
      obtain ⟨-, h⟩ := ck_e h
      obtain ⟨-, h⟩ := ck_e h
      obtain ⟨-, h⟩ := ck_e h
      obtain ⟨-, h⟩ := ck_e h
      obtain ⟨S7, e9, h⟩ := lt_e h
      have g := g.ui e9 rfl
      obtain ⟨x9, -, h⟩ := lt_e h
      exact g.trans (ih _ _ _ _ h)
theorem md_X5_give (cs : List (Nat × Nat)) (N : Nat) (k : Nat) (a1 : Int32) (a2 : Int32) (S : HS) (r : Unit) (Z : HS) (h : f_X5_give cs N k a1 a2 S = some (r, Z)) : Md ml_X5_give S Z := by
  unfold f_X5_give at h
  have g := Md.rf ml_X5_give S
  obtain ⟨-, h⟩ := ck_e h
  obtain ⟨-, h⟩ := ck_e h
  obtain ⟨-, h⟩ := ck_e h
  obtain ⟨S4, e9, h⟩ := lt_e h
  have g := g.ui e9 rfl
  exact g.trans (md_X5_give_9 _ _ _ _ _ _ _ h)

abbrev ml_X5_share : List (Nat × Option Nat × Option Nat) := [(23, none, none)]
theorem md_X5_share (cs : List (Nat × Nat)) (N : Nat) (k : Nat) (a1 : Int32) (a2 : Int32) (a3 : Int32) (S : HS) (r : Unit) (Z : HS) (h : f_X5_share cs N k a1 a2 a3 S = some (r, Z)) : Md ml_X5_share S Z := by
  unfold f_X5_share at h
  have g := Md.rf ml_X5_share S
  obtain ⟨-, h⟩ := ck_e h
  obtain ⟨-, h⟩ := ck_e h
  obtain ⟨-, h⟩ := ck_e h
  obtain ⟨-, h⟩ := ck_e h
  obtain ⟨-, h⟩ := ck_e h
  obtain ⟨-, h⟩ := ck_e h
  obtain ⟨r7, S8, e9, h⟩ := ob_e h
  have g := g.trans ((md_J9_max_7cf53 _ _ _ _ _ _ _ e9).mono (by decide))
  obtain ⟨-, h⟩ := ck_e h
  obtain ⟨S11, e9, h⟩ := lt_e h
  have g := g.ui e9 rfl
  obtain ⟨-, rfl⟩ := some_e h
  exact g

abbrev ml_X5_shut : List (Nat × Option Nat × Option Nat) := [(24, none, none)]
theorem md_X5_shut_3 {r : Unit} {Z : HS} (cs : List (Nat × Nat)) (N : Nat)  : ∀ (n : Nat) (k0 : Nat) (v1 : Int32) (v3 : Int32) (v4 : Int32) (S : HS), f_X5_shut_3 cs N n k0 v1 v3 v4 S = some (r, Z) → Md ml_X5_shut S Z := by
  intro n
  induction n with
  | zero => intro k0 v1 v3 v4 S h; cases h
  | succ n ih =>
    intro k0 v1 v3 v4 S h
    rw [f_X5_shut_3] at h
    have g := Md.rf ml_X5_shut S
    rcases if_c h with ⟨-, h⟩ | ⟨-, h⟩
    · obtain ⟨-, rfl⟩ := some_e h
      exact g
    · obtain ⟨-, h⟩ := ck_e h
      obtain ⟨-, h⟩ := ck_e h
      obtain ⟨-, h⟩ := ck_e h
      obtain ⟨-, h⟩ := ck_e h
      obtain ⟨S6, e9, h⟩ := lt_e h
      have g := g.ul e9 rfl
      obtain ⟨x8, -, h⟩ := lt_e h
      exact g.trans (ih _ _ _ _ _ h)
theorem md_X5_shut (cs : List (Nat × Nat)) (N : Nat) (k : Nat) (a1 : Int32) (a2 : Int32) (a3 : Int32) (S : HS) (r : Unit) (Z : HS) (h : f_X5_shut cs N k a1 a2 a3 S = some (r, Z)) : Md ml_X5_shut S Z := by
  unfold f_X5_shut at h
  have g := Md.rf ml_X5_shut S
  exact g.trans (md_X5_shut_3 _ _ _ _ _ _ _ _ h)

abbrev ml_X5_allow : List (Nat × Option Nat × Option Nat) := []
theorem md_X5_allow (cs : List (Nat × Nat)) (N : Nat) (k : Nat) (a1 : Int32) (a2 : Int32) (a3 : Int32) (S : HS) (r : Int32) (Z : HS) (h : f_X5_allow cs N k a1 a2 a3 S = some (r, Z)) : Md ml_X5_allow S Z := by
  unfold f_X5_allow at h
  have g := Md.rf ml_X5_allow S
  obtain ⟨-, h⟩ := ck_e h
  obtain ⟨-, h⟩ := ck_e h
  obtain ⟨-, h⟩ := ck_e h
  rcases if_c h with ⟨-, h⟩ | ⟨-, h⟩
  · obtain ⟨-, h⟩ := ck_e h
    obtain ⟨-, h⟩ := ck_e h
    rcases if_c h with ⟨-, h⟩ | ⟨-, h⟩
    · obtain ⟨-, rfl⟩ := some_e h
      exact g
    · obtain ⟨-, h⟩ := ck_e h
      rcases if_c h with ⟨-, h⟩ | ⟨-, h⟩
      · obtain ⟨-, rfl⟩ := some_e h
        exact g
      · obtain ⟨-, h⟩ := ck_e h
        obtain ⟨-, h⟩ := ck_e h
        obtain ⟨-, h⟩ := ck_e h
        obtain ⟨-, h⟩ := ck_e h
        rcases if_c h with ⟨-, h⟩ | ⟨-, h⟩
        · obtain ⟨-, rfl⟩ := some_e h
          exact g
        · obtain ⟨-, rfl⟩ := some_e h
          exact g
  · obtain ⟨-, rfl⟩ := some_e h
    exact g

abbrev ml_X6_reckonAnew : List (Nat × Option Nat × Option Nat) := [(7, none, some 5), (7, none, some 6), (7, none, some 7), (7, none, some 9), (7, none, some 10)]
theorem md_X6_reckonAnew (cs : List (Nat × Nat)) (N : Nat) (k : Nat) (a1 : Nat) (S : HS) (r : Unit) (Z : HS) (h : f_X6_reckonAnew cs N k a1 S = some (r, Z)) : Md ml_X6_reckonAnew S Z := by
  unfold f_X6_reckonAnew at h
  have g := Md.rf ml_X6_reckonAnew S
  obtain ⟨-, h⟩ := ck_e h
  obtain ⟨-, h⟩ := ck_e h
  obtain ⟨r3, S4, e9, h⟩ := ob_e h
  have g := g.trans ((md_X3_grossToMake _ _ _ _ _ _ _ e9).mono (by decide))
  obtain ⟨S6, e9, h⟩ := lt_e h
  have g := g.ui e9 rfl
  obtain ⟨S8, e9, h⟩ := lt_e h
  have g := g.ui e9 rfl
  obtain ⟨S10, e9, h⟩ := lt_e h
  have g := g.ui e9 rfl
  obtain ⟨S12, e9, h⟩ := lt_e h
  have g := g.ui e9 rfl
  obtain ⟨S14, e9, h⟩ := lt_e h
  have g := g.ui e9 rfl
  obtain ⟨-, rfl⟩ := some_e h
  exact g

abbrev ml_X6_hoursLeftFor : List (Nat × Option Nat × Option Nat) := []
theorem md_X6_hoursLeftFor (cs : List (Nat × Nat)) (N : Nat) (k : Nat) (a1 : Int32) (S : HS) (r : Int32) (Z : HS) (h : f_X6_hoursLeftFor cs N k a1 S = some (r, Z)) : Md ml_X6_hoursLeftFor S Z := by
  unfold f_X6_hoursLeftFor at h
  have g := Md.rf ml_X6_hoursLeftFor S
  obtain ⟨-, h⟩ := ck_e h
  rcases if_c h with ⟨-, h⟩ | ⟨-, h⟩
  · obtain ⟨-, rfl⟩ := some_e h
    exact g
  · obtain ⟨-, rfl⟩ := some_e h
    exact g

abbrev ml_X6_workBy : List (Nat × Option Nat × Option Nat) := [(7, none, some 9), (7, none, some 10)]
theorem md_X6_workBy (cs : List (Nat × Nat)) (N : Nat) (k : Nat) (a1 : Int32) (a2 : Int32) (S : HS) (r : Unit) (Z : HS) (h : f_X6_workBy cs N k a1 a2 S = some (r, Z)) : Md ml_X6_workBy S Z := by
  unfold f_X6_workBy at h
  have g := Md.rf ml_X6_workBy S
  obtain ⟨-, h⟩ := ck_e h
  rcases if_c h with ⟨-, h⟩ | ⟨-, h⟩
  · obtain ⟨S3, e9, h⟩ := lt_e h
    have g := g.ui e9 rfl
    obtain ⟨-, rfl⟩ := some_e h
    exact g
  · obtain ⟨S5, e9, h⟩ := lt_e h
    have g := g.ui e9 rfl
    obtain ⟨S7, e9, h⟩ := lt_e h
    have g := g.ui e9 rfl
    obtain ⟨S9, e9, h⟩ := lt_e h
    have g := g.ui e9 rfl
    obtain ⟨-, rfl⟩ := some_e h
    exact g

abbrev ml_X7_put : List (Nat × Option Nat × Option Nat) := [(9, some 0, some 0), (10, some 0, none)]
theorem md_X7_put_3 {r : Unit} {Z : HS} (cs : List (Nat × Nat)) (N : Nat)  : ∀ (n : Nat) (v1 : Int32) (v2 : Int32) (S : HS), f_X7_put_3 cs N n v1 v2 S = some (r, Z) → Md ml_X7_put S Z := by
  intro n
  induction n with
  | zero => intro v1 v2 S h; cases h
  | succ n ih =>
    intro v1 v2 S h
    rw [f_X7_put_3] at h
    have g := Md.rf ml_X7_put S
    rcases if_c h with ⟨-, h⟩ | ⟨-, h⟩
    · obtain ⟨-, rfl⟩ := some_e h
      exact g
    · obtain ⟨-, h⟩ := ck_e h
      rcases if_c h with ⟨-, h⟩ | ⟨-, h⟩
      · obtain ⟨-, rfl⟩ := some_e h
        exact g
      · obtain ⟨-, h⟩ := ck_e h
        obtain ⟨-, h⟩ := ck_e h
        obtain ⟨S6, e9, h⟩ := lt_e h
        have g := g.ui e9 rfl
        obtain ⟨S8, e9, h⟩ := lt_e h
        have g := g.ui e9 rfl
        obtain ⟨x10, -, h⟩ := lt_e h
        exact g.trans (ih _ _ _ h)
theorem md_X7_put (cs : List (Nat × Nat)) (N : Nat) (a1 : Int32) (S : HS) (r : Unit) (Z : HS) (h : f_X7_put cs N a1 S = some (r, Z)) : Md ml_X7_put S Z := by
  unfold f_X7_put at h
  have g := Md.rf ml_X7_put S
  exact g.trans (md_X7_put_3 _ _ _ _ _ _ h)

abbrev ml_X7_skipBlanks : List (Nat × Option Nat × Option Nat) := [(9, some 0, some 5)]
theorem md_X7_skipBlanks_0 {r : Unit} {Z : HS} (cs : List (Nat × Nat)) (N : Nat)  : ∀ (n : Nat)  (S : HS), f_X7_skipBlanks_0 cs N n  S = some (r, Z) → Md ml_X7_skipBlanks S Z := by
  intro n
  induction n with
  | zero => intro  S h; cases h
  | succ n ih =>
    intro  S h
    rw [f_X7_skipBlanks_0] at h
    have g := Md.rf ml_X7_skipBlanks S
    obtain ⟨-, h⟩ := ck_e h
    rcases if_c h with ⟨-, h⟩ | ⟨-, h⟩
    · obtain ⟨-, rfl⟩ := some_e h
      exact g
    · obtain ⟨-, h⟩ := ck_e h
      obtain ⟨-, h⟩ := ck_e h
      rcases if_c h with ⟨-, h⟩ | ⟨-, h⟩
      · obtain ⟨S6, e9, h⟩ := lt_e h
        have g := g.ui e9 rfl
        exact g.trans (ih _ h)
      · obtain ⟨-, h⟩ := ck_e h
        rcases if_c h with ⟨-, h⟩ | ⟨-, h⟩
        · obtain ⟨S10, e9, h⟩ := lt_e h
          have g := g.ui e9 rfl
          exact g.trans (ih _ h)
        · obtain ⟨-, rfl⟩ := some_e h
          exact g
theorem md_X7_skipBlanks (cs : List (Nat × Nat)) (N : Nat)  (S : HS) (r : Unit) (Z : HS) (h : f_X7_skipBlanks cs N  S = some (r, Z)) : Md ml_X7_skipBlanks S Z := by
  unfold f_X7_skipBlanks at h
  have g := Md.rf ml_X7_skipBlanks S
  exact g.trans (md_X7_skipBlanks_0 _ _ _ _ h)

abbrev ml_X7_isWord : List (Nat × Option Nat × Option Nat) := []
theorem md_X7_isWord_20 {r : Int32} {Z : HS} (cs : List (Nat × Nat)) (N : Nat)  : ∀ (n : Nat) (k1 : Nat) (v2 : Int32) (S : HS), f_X7_isWord_20 cs N n k1 v2 S = some (r, Z) → Md ml_X7_isWord S Z := by
  intro n
  induction n with
  | zero => intro k1 v2 S h; cases h
  | succ n ih =>
    intro k1 v2 S h
    rw [f_X7_isWord_20] at h
    have g := Md.rf ml_X7_isWord S
    obtain ⟨-, h⟩ := ck_e h
    obtain ⟨r2, S3, e9, h⟩ := ob_e h
    have g := g.trans ((md_J0_length_8abf5 _ _ _ _ _ _ e9).mono (by decide))
    rcases if_c h with ⟨-, h⟩ | ⟨-, h⟩
    · obtain ⟨-, rfl⟩ := some_e h
      exact g
    · obtain ⟨-, h⟩ := ck_e h
      obtain ⟨-, h⟩ := ck_e h
      obtain ⟨-, h⟩ := ck_e h
      obtain ⟨r9, S10, e9, h⟩ := ob_e h
      have g := g.trans ((md_J0_charAt_5068e _ _ _ _ _ _ _ e9).mono (by decide))
      rcases if_c h with ⟨-, h⟩ | ⟨-, h⟩
      · obtain ⟨x13, -, h⟩ := lt_e h
        exact g.trans (ih _ _ _ h)
      · obtain ⟨-, rfl⟩ := some_e h
        exact g
theorem md_X7_isWord (cs : List (Nat × Nat)) (N : Nat) (a1 : Nat) (S : HS) (r : Int32) (Z : HS) (h : f_X7_isWord cs N a1 S = some (r, Z)) : Md ml_X7_isWord S Z := by
  unfold f_X7_isWord at h
  have g := Md.rf ml_X7_isWord S
  obtain ⟨-, h⟩ := ck_e h
  obtain ⟨-, h⟩ := ck_e h
  obtain ⟨r3, S4, e9, h⟩ := ob_e h
  have g := g.trans ((md_J0_length_8abf5 _ _ _ _ _ _ e9).mono (by decide))
  rcases if_c h with ⟨-, h⟩ | ⟨-, h⟩
  · exact g.trans (md_X7_isWord_20 _ _ _ _ _ _ h)
  · obtain ⟨-, rfl⟩ := some_e h
    exact g

abbrev ml_X7_isLetter : List (Nat × Option Nat × Option Nat) := []
theorem md_X7_isLetter_12 {r : Int32} {Z : HS} (cs : List (Nat × Nat)) (N : Nat)  (v0 : Int32) (S : HS) (h : f_X7_isLetter_12 cs N v0 S = some (r, Z)) : Md ml_X7_isLetter S Z := by
  unfold f_X7_isLetter_12 at h
  have g := Md.rf ml_X7_isLetter S
  rcases if_c h with ⟨-, h⟩ | ⟨-, h⟩
  · obtain ⟨-, rfl⟩ := some_e h
    exact g
  · rcases if_c h with ⟨-, h⟩ | ⟨-, h⟩
    · obtain ⟨-, rfl⟩ := some_e h
      exact g
    · obtain ⟨-, rfl⟩ := some_e h
      exact g
theorem md_X7_isLetter (cs : List (Nat × Nat)) (N : Nat) (a1 : Int32) (S : HS) (r : Int32) (Z : HS) (h : f_X7_isLetter cs N a1 S = some (r, Z)) : Md ml_X7_isLetter S Z := by
  unfold f_X7_isLetter at h
  have g := Md.rf ml_X7_isLetter S
  rcases if_c h with ⟨-, h⟩ | ⟨-, h⟩
  · exact g.trans (md_X7_isLetter_12 _ _ _ _ h)
  · rcases if_c h with ⟨-, h⟩ | ⟨-, h⟩
    · obtain ⟨-, rfl⟩ := some_e h
      exact g
    · exact g.trans (md_X7_isLetter_12 _ _ _ _ h)

abbrev ml_X7_isDigit : List (Nat × Option Nat × Option Nat) := []
theorem md_X7_isDigit (cs : List (Nat × Nat)) (N : Nat) (a1 : Int32) (S : HS) (r : Int32) (Z : HS) (h : f_X7_isDigit cs N a1 S = some (r, Z)) : Md ml_X7_isDigit S Z := by
  unfold f_X7_isDigit at h
  have g := Md.rf ml_X7_isDigit S
  rcases if_c h with ⟨-, h⟩ | ⟨-, h⟩
  · obtain ⟨-, rfl⟩ := some_e h
    exact g
  · rcases if_c h with ⟨-, h⟩ | ⟨-, h⟩
    · obtain ⟨-, rfl⟩ := some_e h
      exact g
    · obtain ⟨-, rfl⟩ := some_e h
      exact g

abbrev ml_X8_feed : List (Nat × Option Nat × Option Nat) := [(9, some 0, some 0), (10, some 0, none)]
theorem md_X8_feed (cs : List (Nat × Nat)) (N : Nat) (a1 : Int32) (a2 : Int32) (a3 : Int32) (a4 : Int32) (a5 : Int32) (S : HS) (r : Int32) (Z : HS) (h : f_X8_feed cs N a1 a2 a3 a4 a5 S = some (r, Z)) : Md ml_X8_feed S Z := by
  unfold f_X8_feed at h
  have g := Md.rf ml_X8_feed S
  obtain ⟨-, h⟩ := ck_e h
  obtain ⟨-, h⟩ := ck_e h
  obtain ⟨-, h⟩ := ck_e h
  rcases if_c h with ⟨-, h⟩ | ⟨-, h⟩
  · obtain ⟨r5, S6, e9, h⟩ := ob_e h
    have g := g.trans ((md_X7_put _ _ _ _ _ _ e9).mono (by decide))
    obtain ⟨r8, S9, e9, h⟩ := ob_e h
    have g := g.trans ((md_X7_put _ _ _ _ _ _ e9).mono (by decide))
    obtain ⟨r11, S12, e9, h⟩ := ob_e h
    have g := g.trans ((md_X7_put _ _ _ _ _ _ e9).mono (by decide))
    obtain ⟨r14, S15, e9, h⟩ := ob_e h
    have g := g.trans ((md_X7_put _ _ _ _ _ _ e9).mono (by decide))
    obtain ⟨r17, S18, e9, h⟩ := ob_e h
    have g := g.trans ((md_X7_put _ _ _ _ _ _ e9).mono (by decide))
    obtain ⟨-, rfl⟩ := some_e h
    exact g
  · obtain ⟨-, rfl⟩ := some_e h
    exact g

abbrev ml_X8_fault : List (Nat × Option Nat × Option Nat) := []
theorem md_X8_fault (cs : List (Nat × Nat)) (N : Nat) (a1 : Int32) (S : HS) (r : Int32) (Z : HS) (h : f_X8_fault cs N a1 S = some (r, Z)) : Md ml_X8_fault S Z := by
  unfold f_X8_fault at h
  have g := Md.rf ml_X8_fault S
  rcases if_c h with ⟨-, h⟩ | ⟨-, h⟩
  · obtain ⟨-, h⟩ := ck_e h
    obtain ⟨-, h⟩ := ck_e h
    obtain ⟨-, rfl⟩ := some_e h
    exact g
  · rcases if_c h with ⟨-, h⟩ | ⟨-, h⟩
    · obtain ⟨-, h⟩ := ck_e h
      obtain ⟨-, h⟩ := ck_e h
      obtain ⟨-, rfl⟩ := some_e h
      exact g
    · obtain ⟨-, rfl⟩ := some_e h
      exact g

abbrev ml_X8_countOrders : List (Nat × Option Nat × Option Nat) := []
theorem md_X8_countOrders_4 {r : Int32} {Z : HS} (cs : List (Nat × Nat)) (N : Nat)  : ∀ (n : Nat) (v1 : Int32) (v2 : Int32) (v3 : Int32) (S : HS), f_X8_countOrders_4 cs N n v1 v2 v3 S = some (r, Z) → Md ml_X8_countOrders S Z := by
  intro n
  induction n with
  | zero => intro v1 v2 v3 S h; cases h
  | succ n ih =>
    intro v1 v2 v3 S h
    rw [f_X8_countOrders_4] at h
    have g := Md.rf ml_X8_countOrders S
    obtain ⟨-, h⟩ := ck_e h
    rcases if_c h with ⟨-, h⟩ | ⟨-, h⟩
    · obtain ⟨-, rfl⟩ := some_e h
      exact g
    · obtain ⟨-, h⟩ := ck_e h
      obtain ⟨-, h⟩ := ck_e h
      obtain ⟨-, h⟩ := ck_e h
      rcases if_c h with ⟨-, h⟩ | ⟨-, h⟩
      · obtain ⟨x9, -, h⟩ := lt_e h
        obtain ⟨x11, -, h⟩ := lt_e h
        exact g.trans (ih _ _ _ _ h)
      · obtain ⟨x7, -, h⟩ := lt_e h
        exact g.trans (ih _ _ _ _ h)
theorem md_X8_countOrders (cs : List (Nat × Nat)) (N : Nat) (a1 : Int32) (S : HS) (r : Int32) (Z : HS) (h : f_X8_countOrders cs N a1 S = some (r, Z)) : Md ml_X8_countOrders S Z := by
  unfold f_X8_countOrders at h
  have g := Md.rf ml_X8_countOrders S
  exact g.trans (md_X8_countOrders_4 _ _ _ _ _ _ _ h)

abbrev ml_X8_isOrder : List (Nat × Option Nat × Option Nat) := []
theorem md_X8_isOrder (cs : List (Nat × Nat)) (N : Nat) (a1 : Int32) (S : HS) (r : Int32) (Z : HS) (h : f_X8_isOrder cs N a1 S = some (r, Z)) : Md ml_X8_isOrder S Z := by
  unfold f_X8_isOrder at h
  have g := Md.rf ml_X8_isOrder S
  rcases if_c h with ⟨-, h⟩ | ⟨-, h⟩
  · obtain ⟨-, rfl⟩ := some_e h
    exact g
  · obtain ⟨-, h⟩ := ck_e h
    rcases if_c h with ⟨-, h⟩ | ⟨-, h⟩
    · obtain ⟨-, rfl⟩ := some_e h
      exact g
    · obtain ⟨-, rfl⟩ := some_e h
      exact g

abbrev ml_X8_isFamily : List (Nat × Option Nat × Option Nat) := []
theorem md_X8_isFamily (cs : List (Nat × Nat)) (N : Nat) (a1 : Int32) (S : HS) (r : Int32) (Z : HS) (h : f_X8_isFamily cs N a1 S = some (r, Z)) : Md ml_X8_isFamily S Z := by
  unfold f_X8_isFamily at h
  have g := Md.rf ml_X8_isFamily S
  rcases if_c h with ⟨-, h⟩ | ⟨-, h⟩
  · obtain ⟨-, rfl⟩ := some_e h
    exact g
  · rcases if_c h with ⟨-, h⟩ | ⟨-, h⟩
    · obtain ⟨-, rfl⟩ := some_e h
      exact g
    · obtain ⟨-, rfl⟩ := some_e h
      exact g

abbrev ml_X8_isPattern : List (Nat × Option Nat × Option Nat) := []
theorem md_X8_isPattern (cs : List (Nat × Nat)) (N : Nat) (a1 : Int32) (S : HS) (r : Int32) (Z : HS) (h : f_X8_isPattern cs N a1 S = some (r, Z)) : Md ml_X8_isPattern S Z := by
  unfold f_X8_isPattern at h
  have g := Md.rf ml_X8_isPattern S
  rcases if_c h with ⟨-, h⟩ | ⟨-, h⟩
  · obtain ⟨-, rfl⟩ := some_e h
    exact g
  · rcases if_c h with ⟨-, h⟩ | ⟨-, h⟩
    · obtain ⟨-, rfl⟩ := some_e h
      exact g
    · obtain ⟨-, rfl⟩ := some_e h
      exact g

abbrev ml_X8_isWithin : List (Nat × Option Nat × Option Nat) := []
theorem md_X8_isWithin (cs : List (Nat × Nat)) (N : Nat) (a1 : Int32) (a2 : Int32) (a3 : Int32) (S : HS) (r : Int32) (Z : HS) (h : f_X8_isWithin cs N a1 a2 a3 S = some (r, Z)) : Md ml_X8_isWithin S Z := by
  unfold f_X8_isWithin at h
  have g := Md.rf ml_X8_isWithin S
  rcases if_c h with ⟨-, h⟩ | ⟨-, h⟩
  · obtain ⟨-, rfl⟩ := some_e h
    exact g
  · rcases if_c h with ⟨-, h⟩ | ⟨-, h⟩
    · obtain ⟨-, rfl⟩ := some_e h
      exact g
    · obtain ⟨-, rfl⟩ := some_e h
      exact g

abbrev ml_X9_isIn : List (Nat × Option Nat × Option Nat) := []
theorem md_X9_isIn (cs : List (Nat × Nat)) (N : Nat) (a1 : Int32) (a2 : Int32) (a3 : Int32) (S : HS) (r : Int32) (Z : HS) (h : f_X9_isIn cs N a1 a2 a3 S = some (r, Z)) : Md ml_X9_isIn S Z := by
  unfold f_X9_isIn at h
  have g := Md.rf ml_X9_isIn S
  rcases if_c h with ⟨-, h⟩ | ⟨-, h⟩
  · obtain ⟨-, rfl⟩ := some_e h
    exact g
  · rcases if_c h with ⟨-, h⟩ | ⟨-, h⟩
    · obtain ⟨-, rfl⟩ := some_e h
      exact g
    · obtain ⟨-, rfl⟩ := some_e h
      exact g

abbrev ml_X9_isFamily : List (Nat × Option Nat × Option Nat) := []
theorem md_X9_isFamily (cs : List (Nat × Nat)) (N : Nat) (a1 : Int32) (S : HS) (r : Int32) (Z : HS) (h : f_X9_isFamily cs N a1 S = some (r, Z)) : Md ml_X9_isFamily S Z := by
  unfold f_X9_isFamily at h
  have g := Md.rf ml_X9_isFamily S
  obtain ⟨r1, S2, e9, h⟩ := ob_e h
  have g := g.trans ((md_X9_isIn _ _ _ _ _ _ _ _ e9).mono (by decide))
  obtain ⟨-, h⟩ := ck_e h
  obtain ⟨-, rfl⟩ := some_e h
  exact g

abbrev ml_X9_isPattern : List (Nat × Option Nat × Option Nat) := []
theorem md_X9_isPattern (cs : List (Nat × Nat)) (N : Nat) (a1 : Int32) (S : HS) (r : Int32) (Z : HS) (h : f_X9_isPattern cs N a1 S = some (r, Z)) : Md ml_X9_isPattern S Z := by
  unfold f_X9_isPattern at h
  have g := Md.rf ml_X9_isPattern S
  obtain ⟨r1, S2, e9, h⟩ := ob_e h
  have g := g.trans ((md_X9_isIn _ _ _ _ _ _ _ _ e9).mono (by decide))
  obtain ⟨-, h⟩ := ck_e h
  obtain ⟨-, rfl⟩ := some_e h
  exact g

abbrev ml_X9_isWeek : List (Nat × Option Nat × Option Nat) := []
theorem md_X9_isWeek (cs : List (Nat × Nat)) (N : Nat) (a1 : Int32) (a2 : Int32) (S : HS) (r : Int32) (Z : HS) (h : f_X9_isWeek cs N a1 a2 S = some (r, Z)) : Md ml_X9_isWeek S Z := by
  unfold f_X9_isWeek at h
  have g := Md.rf ml_X9_isWeek S
  obtain ⟨r1, S2, e9, h⟩ := ob_e h
  have g := g.trans ((md_X9_isIn _ _ _ _ _ _ _ _ e9).mono (by decide))
  obtain ⟨-, h⟩ := ck_e h
  obtain ⟨-, rfl⟩ := some_e h
  exact g

abbrev ml_X9_hours : List (Nat × Option Nat × Option Nat) := [(31, some 0, none)]
theorem md_X9_hours (cs : List (Nat × Nat)) (N : Nat) (a1 : Int32) (a2 : Int32) (a3 : Int32) (S : HS) (r : Int32) (Z : HS) (h : f_X9_hours cs N a1 a2 a3 S = some (r, Z)) : Md ml_X9_hours S Z := by
  unfold f_X9_hours at h
  have g := Md.rf ml_X9_hours S
  obtain ⟨r1, S2, e9, h⟩ := ob_e h
  have g := g.trans ((md_X9_isFamily _ _ _ _ _ _ e9).mono (by decide))
  rcases if_c h with ⟨-, h⟩ | ⟨-, h⟩
  · obtain ⟨-, rfl⟩ := some_e h
    exact g
  · obtain ⟨-, h⟩ := ck_e h
    obtain ⟨r6, S7, e9, h⟩ := ob_e h
    have g := g.trans ((md_X9_isWeek _ _ _ _ _ _ _ e9).mono (by decide))
    rcases if_c h with ⟨-, h⟩ | ⟨-, h⟩
    · obtain ⟨-, rfl⟩ := some_e h
      exact g
    · obtain ⟨r10, S11, e9, h⟩ := ob_e h
      have g := g.trans ((md_X9_isIn _ _ _ _ _ _ _ _ e9).mono (by decide))
      rcases if_c h with ⟨-, h⟩ | ⟨-, h⟩
      · obtain ⟨-, rfl⟩ := some_e h
        exact g
      · obtain ⟨-, h⟩ := ck_e h
        obtain ⟨-, h⟩ := ck_e h
        obtain ⟨S16, e9, h⟩ := lt_e h
        have g := g.ui e9 rfl
        obtain ⟨-, rfl⟩ := some_e h
        exact g

abbrev ml_X9_counts : List (Nat × Option Nat × Option Nat) := [(31, some 10, none), (31, some 11, none), (31, some 12, none), (31, some 14, none), (31, some 15, none)]
theorem md_X9_counts_14 {r : Unit} {Z : HS} (cs : List (Nat × Nat)) (N : Nat)  : ∀ (n : Nat) (v1 : Int32) (v2 : Int32) (v3 : Int32) (S : HS), f_X9_counts_14 cs N n v1 v2 v3 S = some (r, Z) → Md ml_X9_counts S Z := by
  intro n
  induction n with
  | zero => intro v1 v2 v3 S h; cases h
  | succ n ih =>
    intro v1 v2 v3 S h
    rw [f_X9_counts_14] at h
    have g := Md.rf ml_X9_counts S
    obtain ⟨-, h⟩ := ck_e h
    obtain ⟨-, h⟩ := ck_e h
    obtain ⟨-, h⟩ := ck_e h
    obtain ⟨-, h⟩ := ck_e h
    obtain ⟨-, h⟩ := ck_e h
    rcases if_c h with ⟨-, h⟩ | ⟨-, h⟩
    · obtain ⟨-, h⟩ := ck_e h
      obtain ⟨-, h⟩ := ck_e h
      obtain ⟨S9, e9, h⟩ := lt_e h
      have g := g.ui e9 rfl
      obtain ⟨-, h⟩ := ck_e h
      obtain ⟨-, h⟩ := ck_e h
      obtain ⟨-, h⟩ := ck_e h
      obtain ⟨-, h⟩ := ck_e h
      obtain ⟨S15, e9, h⟩ := lt_e h
      have g := g.ui e9 rfl
      obtain ⟨-, h⟩ := ck_e h
      obtain ⟨-, h⟩ := ck_e h
      obtain ⟨-, h⟩ := ck_e h
      obtain ⟨-, h⟩ := ck_e h
      obtain ⟨S21, e9, h⟩ := lt_e h
      have g := g.ui e9 rfl
      obtain ⟨-, h⟩ := ck_e h
      obtain ⟨-, h⟩ := ck_e h
      obtain ⟨S25, e9, h⟩ := lt_e h
      have g := g.ui e9 rfl
      obtain ⟨-, h⟩ := ck_e h
      obtain ⟨-, h⟩ := ck_e h
      obtain ⟨S29, e9, h⟩ := lt_e h
      have g := g.ui e9 rfl
      obtain ⟨-, rfl⟩ := some_e h
      exact g
    · obtain ⟨x31, -, h⟩ := lt_e h
      exact g.trans (ih _ _ _ _ h)
theorem md_X9_counts (cs : List (Nat × Nat)) (N : Nat) (a1 : Int32) (S : HS) (r : Unit) (Z : HS) (h : f_X9_counts cs N a1 S = some (r, Z)) : Md ml_X9_counts S Z := by
  unfold f_X9_counts at h
  have g := Md.rf ml_X9_counts S
  obtain ⟨-, h⟩ := ck_e h
  obtain ⟨-, h⟩ := ck_e h
  obtain ⟨-, h⟩ := ck_e h
  obtain ⟨x4, -, h⟩ := lt_e h
  obtain ⟨-, h⟩ := ck_e h
  obtain ⟨-, h⟩ := ck_e h
  obtain ⟨x8, -, h⟩ := lt_e h
  exact g.trans (md_X9_counts_14 _ _ _ _ _ _ _ h)

abbrev ml_X9_isOpen : List (Nat × Option Nat × Option Nat) := []
theorem md_X9_isOpen (cs : List (Nat × Nat)) (N : Nat) (a1 : Int32) (S : HS) (r : Int32) (Z : HS) (h : f_X9_isOpen cs N a1 S = some (r, Z)) : Md ml_X9_isOpen S Z := by
  unfold f_X9_isOpen at h
  have g := Md.rf ml_X9_isOpen S
  obtain ⟨-, h⟩ := ck_e h
  obtain ⟨r2, S3, e9, h⟩ := ob_e h
  have g := g.trans ((md_X9_isIn _ _ _ _ _ _ _ _ e9).mono (by decide))
  rcases if_c h with ⟨-, h⟩ | ⟨-, h⟩
  · obtain ⟨-, rfl⟩ := some_e h
    exact g
  · obtain ⟨-, h⟩ := ck_e h
    obtain ⟨-, h⟩ := ck_e h
    rcases if_c h with ⟨-, h⟩ | ⟨-, h⟩
    · obtain ⟨-, rfl⟩ := some_e h
      exact g
    · obtain ⟨-, rfl⟩ := some_e h
      exact g

abbrev ml_X9_pattern : List (Nat × Option Nat × Option Nat) := [(31, some 3, none), (31, some 4, none), (31, some 5, none), (31, some 10, none), (31, some 11, none), (31, some 12, none), (31, some 14, none), (31, some 15, none)]
theorem md_X9_pattern_65 {r : Int32} {Z : HS} (cs : List (Nat × Nat)) (N : Nat)  : ∀ (n : Nat) (v1 : Int32) (v5 : Int32) (S : HS), f_X9_pattern_65 cs N n v1 v5 S = some (r, Z) → Md ml_X9_pattern S Z := by
  intro n
  induction n with
  | zero => intro v1 v5 S h; cases h
  | succ n ih =>
    intro v1 v5 S h
    rw [f_X9_pattern_65] at h
    have g := Md.rf ml_X9_pattern S
    obtain ⟨-, h⟩ := ck_e h
    rcases if_c h with ⟨-, h⟩ | ⟨-, h⟩
    · obtain ⟨-, rfl⟩ := some_e h
      exact g
    · obtain ⟨r3, S4, e9, h⟩ := ob_e h
      have g := g.trans ((md_X9_isOpen _ _ _ _ _ _ e9).mono (by decide))
      rcases if_c h with ⟨-, h⟩ | ⟨-, h⟩
      · obtain ⟨x7, -, h⟩ := lt_e h
        exact g.trans (ih _ _ _ h)
      · obtain ⟨-, h⟩ := ck_e h
        obtain ⟨-, h⟩ := ck_e h
        rcases if_c h with ⟨-, h⟩ | ⟨-, h⟩
        · obtain ⟨r14, S15, e9, h⟩ := ob_e h
          have g := g.trans ((md_X9_counts _ _ _ _ _ _ e9).mono (by decide))
          obtain ⟨x17, -, h⟩ := lt_e h
          exact g.trans (ih _ _ _ h)
        · obtain ⟨x12, -, h⟩ := lt_e h
          exact g.trans (ih _ _ _ h)
theorem md_X9_pattern (cs : List (Nat × Nat)) (N : Nat) (a1 : Int32) (a2 : Int32) (a3 : Int32) (a4 : Int32) (S : HS) (r : Int32) (Z : HS) (h : f_X9_pattern cs N a1 a2 a3 a4 S = some (r, Z)) : Md ml_X9_pattern S Z := by
  unfold f_X9_pattern at h
  have g := Md.rf ml_X9_pattern S
  obtain ⟨r1, S2, e9, h⟩ := ob_e h
  have g := g.trans ((md_X9_isPattern _ _ _ _ _ _ e9).mono (by decide))
  rcases if_c h with ⟨-, h⟩ | ⟨-, h⟩
  · obtain ⟨-, rfl⟩ := some_e h
    exact g
  · obtain ⟨r5, S6, e9, h⟩ := ob_e h
    have g := g.trans ((md_X9_isIn _ _ _ _ _ _ _ _ e9).mono (by decide))
    rcases if_c h with ⟨-, h⟩ | ⟨-, h⟩
    · obtain ⟨-, rfl⟩ := some_e h
      exact g
    · obtain ⟨r9, S10, e9, h⟩ := ob_e h
      have g := g.trans ((md_X9_isIn _ _ _ _ _ _ _ _ e9).mono (by decide))
      rcases if_c h with ⟨-, h⟩ | ⟨-, h⟩
      · obtain ⟨-, rfl⟩ := some_e h
        exact g
      · obtain ⟨r13, S14, e9, h⟩ := ob_e h
        have g := g.trans ((md_X9_isIn _ _ _ _ _ _ _ _ e9).mono (by decide))
        rcases if_c h with ⟨-, h⟩ | ⟨-, h⟩
        · obtain ⟨-, rfl⟩ := some_e h
          exact g
        · obtain ⟨-, h⟩ := ck_e h
          obtain ⟨-, h⟩ := ck_e h
          obtain ⟨-, h⟩ := ck_e h
          obtain ⟨S20, e9, h⟩ := lt_e h
          have g := g.ui e9 rfl
          obtain ⟨-, h⟩ := ck_e h
          obtain ⟨-, h⟩ := ck_e h
          obtain ⟨S24, e9, h⟩ := lt_e h
          have g := g.ui e9 rfl
          obtain ⟨-, h⟩ := ck_e h
          obtain ⟨-, h⟩ := ck_e h
          obtain ⟨S28, e9, h⟩ := lt_e h
          have g := g.ui e9 rfl
          exact g.trans (md_X9_pattern_65 _ _ _ _ _ _ h)

abbrev ml_X9_lend : List (Nat × Option Nat × Option Nat) := [(31, some 1, none)]
theorem md_X9_lend (cs : List (Nat × Nat)) (N : Nat) (a1 : Int32) (a2 : Int32) (S : HS) (r : Int32) (Z : HS) (h : f_X9_lend cs N a1 a2 S = some (r, Z)) : Md ml_X9_lend S Z := by
  unfold f_X9_lend at h
  have g := Md.rf ml_X9_lend S
  obtain ⟨r1, S2, e9, h⟩ := ob_e h
  have g := g.trans ((md_X9_isFamily _ _ _ _ _ _ e9).mono (by decide))
  rcases if_c h with ⟨-, h⟩ | ⟨-, h⟩
  · obtain ⟨-, rfl⟩ := some_e h
    exact g
  · obtain ⟨r5, S6, e9, h⟩ := ob_e h
    have g := g.trans ((md_X9_isIn _ _ _ _ _ _ _ _ e9).mono (by decide))
    rcases if_c h with ⟨-, h⟩ | ⟨-, h⟩
    · obtain ⟨-, rfl⟩ := some_e h
      exact g
    · obtain ⟨-, h⟩ := ck_e h
      obtain ⟨-, h⟩ := ck_e h
      obtain ⟨-, h⟩ := ck_e h
      rcases if_c h with ⟨-, h⟩ | ⟨-, h⟩
      · obtain ⟨-, h⟩ := ck_e h
        obtain ⟨-, h⟩ := ck_e h
        obtain ⟨S15, e9, h⟩ := lt_e h
        have g := g.ui e9 rfl
        obtain ⟨-, rfl⟩ := some_e h
        exact g
      · obtain ⟨-, rfl⟩ := some_e h
        exact g

abbrev ml_X9_bring : List (Nat × Option Nat × Option Nat) := [(31, some 1, none)]
theorem md_X9_bring (cs : List (Nat × Nat)) (N : Nat) (a1 : Int32) (S : HS) (r : Int32) (Z : HS) (h : f_X9_bring cs N a1 S = some (r, Z)) : Md ml_X9_bring S Z := by
  unfold f_X9_bring at h
  have g := Md.rf ml_X9_bring S
  obtain ⟨r1, S2, e9, h⟩ := ob_e h
  have g := g.trans ((md_X9_isFamily _ _ _ _ _ _ e9).mono (by decide))
  rcases if_c h with ⟨-, h⟩ | ⟨-, h⟩
  · obtain ⟨-, rfl⟩ := some_e h
    exact g
  · obtain ⟨-, h⟩ := ck_e h
    obtain ⟨-, h⟩ := ck_e h
    obtain ⟨-, h⟩ := ck_e h
    obtain ⟨x8, -, h⟩ := lt_e h
    obtain ⟨-, h⟩ := ck_e h
    obtain ⟨S11, e9, h⟩ := lt_e h
    have g := g.ui e9 rfl
    obtain ⟨-, rfl⟩ := some_e h
    exact g

abbrev ml_X9_order : List (Nat × Option Nat × Option Nat) := [(30, some 0, some 1), (31, some 6, none), (31, some 7, none), (31, some 8, none), (31, some 9, none), (31, some 10, none), (31, some 11, none), (31, some 12, none), (31, some 13, none), (31, some 14, none), (31, some 15, none)]
theorem md_X9_order (cs : List (Nat × Nat)) (N : Nat) (a1 : Int32) (a2 : Int32) (a3 : Int32) (a4 : Int32) (S : HS) (r : Int32) (Z : HS) (h : f_X9_order cs N a1 a2 a3 a4 S = some (r, Z)) : Md ml_X9_order S Z := by
  unfold f_X9_order at h
  have g := Md.rf ml_X9_order S
  obtain ⟨r1, S2, e9, h⟩ := ob_e h
  have g := g.trans ((md_X9_isPattern _ _ _ _ _ _ e9).mono (by decide))
  rcases if_c h with ⟨-, h⟩ | ⟨-, h⟩
  · obtain ⟨-, rfl⟩ := some_e h
    exact g
  · obtain ⟨r5, S6, e9, h⟩ := ob_e h
    have g := g.trans ((md_X9_isIn _ _ _ _ _ _ _ _ e9).mono (by decide))
    rcases if_c h with ⟨-, h⟩ | ⟨-, h⟩
    · obtain ⟨-, rfl⟩ := some_e h
      exact g
    · obtain ⟨-, h⟩ := ck_e h
      obtain ⟨r10, S11, e9, h⟩ := ob_e h
      have g := g.trans ((md_X9_isWeek _ _ _ _ _ _ _ e9).mono (by decide))
      rcases if_c h with ⟨-, h⟩ | ⟨-, h⟩
      · obtain ⟨-, rfl⟩ := some_e h
        exact g
      · obtain ⟨r14, S15, e9, h⟩ := ob_e h
        have g := g.trans ((md_X9_isIn _ _ _ _ _ _ _ _ e9).mono (by decide))
        rcases if_c h with ⟨-, h⟩ | ⟨-, h⟩
        · obtain ⟨-, rfl⟩ := some_e h
          exact g
        · rcases if_c h with ⟨-, h⟩ | ⟨-, h⟩
          · obtain ⟨-, rfl⟩ := some_e h
            exact g
          · obtain ⟨x19, -, h⟩ := lt_e h
            obtain ⟨S21, e9, h⟩ := lt_e h
            have g := g.ui e9 rfl
            obtain ⟨-, h⟩ := ck_e h
            obtain ⟨-, h⟩ := ck_e h
            obtain ⟨S25, e9, h⟩ := lt_e h
            have g := g.ui e9 rfl
            obtain ⟨-, h⟩ := ck_e h
            obtain ⟨-, h⟩ := ck_e h
            obtain ⟨S29, e9, h⟩ := lt_e h
            have g := g.ui e9 rfl
            obtain ⟨-, h⟩ := ck_e h
            obtain ⟨-, h⟩ := ck_e h
            obtain ⟨S33, e9, h⟩ := lt_e h
            have g := g.ui e9 rfl
            obtain ⟨-, h⟩ := ck_e h
            obtain ⟨-, h⟩ := ck_e h
            obtain ⟨S37, e9, h⟩ := lt_e h
            have g := g.ui e9 rfl
            obtain ⟨-, h⟩ := ck_e h
            obtain ⟨-, h⟩ := ck_e h
            obtain ⟨S41, e9, h⟩ := lt_e h
            have g := g.ui e9 rfl
            obtain ⟨r43, S44, e9, h⟩ := ob_e h
            have g := g.trans ((md_X9_counts _ _ _ _ _ _ e9).mono (by decide))
            obtain ⟨-, rfl⟩ := some_e h
            exact g

abbrev ml_X9_drop : List (Nat × Option Nat × Option Nat) := [(31, some 13, none)]
theorem md_X9_drop (cs : List (Nat × Nat)) (N : Nat) (a1 : Int32) (S : HS) (r : Int32) (Z : HS) (h : f_X9_drop cs N a1 S = some (r, Z)) : Md ml_X9_drop S Z := by
  unfold f_X9_drop at h
  have g := Md.rf ml_X9_drop S
  obtain ⟨-, h⟩ := ck_e h
  obtain ⟨r2, S3, e9, h⟩ := ob_e h
  have g := g.trans ((md_X9_isOpen _ _ _ _ _ _ e9).mono (by decide))
  rcases if_c h with ⟨-, h⟩ | ⟨-, h⟩
  · obtain ⟨-, rfl⟩ := some_e h
    exact g
  · obtain ⟨-, h⟩ := ck_e h
    obtain ⟨-, h⟩ := ck_e h
    obtain ⟨S8, e9, h⟩ := lt_e h
    have g := g.ui e9 rfl
    obtain ⟨-, rfl⟩ := some_e h
    exact g

abbrev ml_X9_feed : List (Nat × Option Nat × Option Nat) := [(30, some 0, some 24), (31, some 18, none)]
theorem md_X9_feed_71 {r : Int32} {Z : HS} (cs : List (Nat × Nat)) (N : Nat) (K18 : Int32 → Int32 → Int32 → Int32 → Int32 → Int32 → HS → Option (Int32 × HS)) (hK18 : ∀ (v1 : Int32) (v2 : Int32) (v3 : Int32) (v4 : Int32) (v5 : Int32) (v6 : Int32) (S : HS), K18 v1 v2 v3 v4 v5 v6 S = some (r, Z) → Md ml_X9_feed S Z) (v1 : Int32) (v2 : Int32) (v3 : Int32) (v4 : Int32) (v5 : Int32) (v6 : Int32) (t0 : Int32) (S : HS) (h : f_X9_feed_71 cs N K18 v1 v2 v3 v4 v5 v6 t0 S = some (r, Z)) : Md ml_X9_feed S Z := by
  unfold f_X9_feed_71 at h
  have g := Md.rf ml_X9_feed S
  obtain ⟨-, h⟩ := ck_e h
  obtain ⟨-, h⟩ := ck_e h
  obtain ⟨-, h⟩ := ck_e h
  obtain ⟨S4, e9, h⟩ := lt_e h
  have g := g.ui e9 rfl
  obtain ⟨S6, e9, h⟩ := lt_e h
  have g := g.ui e9 rfl
  obtain ⟨x8, -, h⟩ := lt_e h
  exact g.trans (hK18 _ _ _ _ _ _ _ h)
theorem md_X9_feed_18 {r : Int32} {Z : HS} (cs : List (Nat × Nat)) (N : Nat)  : ∀ (n : Nat) (v1 : Int32) (v2 : Int32) (v3 : Int32) (v4 : Int32) (v5 : Int32) (v6 : Int32) (S : HS), f_X9_feed_18 cs N n v1 v2 v3 v4 v5 v6 S = some (r, Z) → Md ml_X9_feed S Z := by
  intro n
  induction n with
  | zero => intro v1 v2 v3 v4 v5 v6 S h; cases h
  | succ n ih =>
    intro v1 v2 v3 v4 v5 v6 S h
    rw [f_X9_feed_18] at h
    have g := Md.rf ml_X9_feed S
    rcases if_c h with ⟨-, h⟩ | ⟨-, h⟩
    · obtain ⟨-, h⟩ := ck_e h
      obtain ⟨-, rfl⟩ := some_e h
      exact g
    · rcases if_c h with ⟨-, h⟩ | ⟨-, h⟩
      · rcases if_c h with ⟨-, h⟩ | ⟨-, h⟩
        · rcases if_c h with ⟨-, h⟩ | ⟨-, h⟩
          · rcases if_c h with ⟨-, h⟩ | ⟨-, h⟩
            · exact g.trans (md_X9_feed_71 _ _ _ ih _ _ _ _ _ _ _ _ h)
            · exact g.trans (md_X9_feed_71 _ _ _ ih _ _ _ _ _ _ _ _ h)
          · exact g.trans (md_X9_feed_71 _ _ _ ih _ _ _ _ _ _ _ _ h)
        · exact g.trans (md_X9_feed_71 _ _ _ ih _ _ _ _ _ _ _ _ h)
      · exact g.trans (md_X9_feed_71 _ _ _ ih _ _ _ _ _ _ _ _ h)
theorem md_X9_feed (cs : List (Nat × Nat)) (N : Nat) (a1 : Int32) (a2 : Int32) (a3 : Int32) (a4 : Int32) (a5 : Int32) (S : HS) (r : Int32) (Z : HS) (h : f_X9_feed cs N a1 a2 a3 a4 a5 S = some (r, Z)) : Md ml_X9_feed S Z := by
  unfold f_X9_feed at h
  have g := Md.rf ml_X9_feed S
  obtain ⟨-, h⟩ := ck_e h
  rcases if_c h with ⟨-, h⟩ | ⟨-, h⟩
  · exact g.trans (md_X9_feed_18 _ _ _ _ _ _ _ _ _ _ h)
  · obtain ⟨-, rfl⟩ := some_e h
    exact g

abbrev ml_X9_end : List (Nat × Option Nat × Option Nat) := [(30, some 0, some 24)]
theorem md_X9_end (cs : List (Nat × Nat)) (N : Nat) (a1 : Int32) (S : HS) (r : Int32) (Z : HS) (h : f_X9_end cs N a1 S = some (r, Z)) : Md ml_X9_end S Z := by
  unfold f_X9_end at h
  have g := Md.rf ml_X9_end S
  obtain ⟨-, h⟩ := ck_e h
  obtain ⟨r2, S3, e9, h⟩ := ob_e h
  have g := g.trans ((md_X9_isIn _ _ _ _ _ _ _ _ e9).mono (by decide))
  rcases if_c h with ⟨-, h⟩ | ⟨-, h⟩
  · obtain ⟨-, rfl⟩ := some_e h
    exact g
  · obtain ⟨S6, e9, h⟩ := lt_e h
    have g := g.ui e9 rfl
    obtain ⟨-, rfl⟩ := some_e h
    exact g

abbrev ml_X9_see : List (Nat × Option Nat × Option Nat) := []
theorem md_X9_see (cs : List (Nat × Nat)) (N : Nat) (a1 : Int32) (S : HS) (r : Int32) (Z : HS) (h : f_X9_see cs N a1 S = some (r, Z)) : Md ml_X9_see S Z := by
  unfold f_X9_see at h
  have g := Md.rf ml_X9_see S
  obtain ⟨-, h⟩ := ck_e h
  rcases if_c h with ⟨-, h⟩ | ⟨-, h⟩
  · obtain ⟨-, rfl⟩ := some_e h
    exact g
  · obtain ⟨-, h⟩ := ck_e h
    obtain ⟨-, h⟩ := ck_e h
    obtain ⟨-, rfl⟩ := some_e h
    exact g

abbrev ml_X9_isLetter : List (Nat × Option Nat × Option Nat) := []
theorem md_X9_isLetter (cs : List (Nat × Nat)) (N : Nat) (a1 : Int32) (S : HS) (r : Int32) (Z : HS) (h : f_X9_isLetter cs N a1 S = some (r, Z)) : Md ml_X9_isLetter S Z := by
  unfold f_X9_isLetter at h
  have g := Md.rf ml_X9_isLetter S
  obtain ⟨r1, S2, e9, h⟩ := ob_e h
  have g := g.trans ((md_X9_isIn _ _ _ _ _ _ _ _ e9).mono (by decide))
  rcases if_c h with ⟨-, h⟩ | ⟨-, h⟩
  · obtain ⟨r5, S6, e9, h⟩ := ob_e h
    have g := g.trans ((md_X9_isIn _ _ _ _ _ _ _ _ e9).mono (by decide))
    rcases if_c h with ⟨-, h⟩ | ⟨-, h⟩
    · obtain ⟨-, rfl⟩ := some_e h
      exact g
    · obtain ⟨-, rfl⟩ := some_e h
      exact g
  · obtain ⟨-, rfl⟩ := some_e h
    exact g

abbrev ml_X9_isDigit : List (Nat × Option Nat × Option Nat) := []
theorem md_X9_isDigit (cs : List (Nat × Nat)) (N : Nat) (a1 : Int32) (S : HS) (r : Int32) (Z : HS) (h : f_X9_isDigit cs N a1 S = some (r, Z)) : Md ml_X9_isDigit S Z := by
  unfold f_X9_isDigit at h
  have g := Md.rf ml_X9_isDigit S
  obtain ⟨r1, S2, e9, h⟩ := ob_e h
  have g := g.trans ((md_X9_isIn _ _ _ _ _ _ _ _ e9).mono (by decide))
  obtain ⟨-, h⟩ := ck_e h
  obtain ⟨-, rfl⟩ := some_e h
  exact g

abbrev ml_X9_word : List (Nat × Option Nat × Option Nat) := []
theorem md_X9_word (cs : List (Nat × Nat)) (N : Nat) (a1 : Int64) (S : HS) (r : Int32) (Z : HS) (h : f_X9_word cs N a1 S = some (r, Z)) : Md ml_X9_word S Z := by
  unfold f_X9_word at h
  have g := Md.rf ml_X9_word S
  rcases if_c h with ⟨-, h⟩ | ⟨-, h⟩
  · obtain ⟨-, rfl⟩ := some_e h
    exact g
  · rcases if_c h with ⟨-, h⟩ | ⟨-, h⟩
    · obtain ⟨-, rfl⟩ := some_e h
      exact g
    · rcases if_c h with ⟨-, h⟩ | ⟨-, h⟩
      · obtain ⟨-, rfl⟩ := some_e h
        exact g
      · rcases if_c h with ⟨-, h⟩ | ⟨-, h⟩
        · obtain ⟨-, rfl⟩ := some_e h
          exact g
        · rcases if_c h with ⟨-, h⟩ | ⟨-, h⟩
          · obtain ⟨-, rfl⟩ := some_e h
            exact g
          · rcases if_c h with ⟨-, h⟩ | ⟨-, h⟩
            · obtain ⟨-, rfl⟩ := some_e h
              exact g
            · rcases if_c h with ⟨-, h⟩ | ⟨-, h⟩
              · obtain ⟨-, rfl⟩ := some_e h
                exact g
              · rcases if_c h with ⟨-, h⟩ | ⟨-, h⟩
                · obtain ⟨-, rfl⟩ := some_e h
                  exact g
                · obtain ⟨-, rfl⟩ := some_e h
                  exact g

abbrev ml_X9_next0 : List (Nat × Option Nat × Option Nat) := [(30, some 0, some 25), (30, some 0, some 26), (30, some 0, some 27), (30, some 0, some 28)]
theorem md_X9_next0_115 {r : Unit} {Z : HS} (cs : List (Nat × Nat)) (N : Nat) (K80 : Int32 → Int64 → HS → Option (Unit × HS)) (hK80 : ∀ (v2 : Int32) (v3 : Int64) (S : HS), K80 v2 v3 S = some (r, Z) → Md ml_X9_next0 S Z) (v2 : Int32) (v3 : Int64) (S : HS) (h : f_X9_next0_115 cs N K80 v2 v3 S = some (r, Z)) : Md ml_X9_next0 S Z := by
  unfold f_X9_next0_115 at h
  have g := Md.rf ml_X9_next0 S
  obtain ⟨x1, -, h⟩ := lt_e h
  obtain ⟨-, h⟩ := ck_e h
  obtain ⟨S4, e9, h⟩ := lt_e h
  have g := g.ui e9 rfl
  exact g.trans (hK80 _ _ _ h)
theorem md_X9_next0_80 {r : Unit} {Z : HS} (cs : List (Nat × Nat)) (N : Nat)  : ∀ (n : Nat) (v2 : Int32) (v3 : Int64) (S : HS), f_X9_next0_80 cs N n v2 v3 S = some (r, Z) → Md ml_X9_next0 S Z := by
  intro n
  induction n with
  | zero => intro v2 v3 S h; cases h
  | succ n ih =>
    intro v2 v3 S h
    rw [f_X9_next0_80] at h
    have g := Md.rf ml_X9_next0 S
    obtain ⟨-, h⟩ := ck_e h
    obtain ⟨r2, S3, e9, h⟩ := ob_e h
    have g := g.trans ((md_X9_see _ _ _ _ _ _ e9).mono (by decide))
    obtain ⟨r5, S6, e9, h⟩ := ob_e h
    have g := g.trans ((md_X9_isLetter _ _ _ _ _ _ e9).mono (by decide))
    rcases if_c h with ⟨-, h⟩ | ⟨-, h⟩
    · rcases if_c h with ⟨-, h⟩ | ⟨-, h⟩
      · obtain ⟨S10, e9, h⟩ := lt_e h
        have g := g.ui e9 rfl
        obtain ⟨-, rfl⟩ := some_e h
        exact g
      · obtain ⟨r12, S13, e9, h⟩ := ob_e h
        have g := g.trans ((md_X9_word _ _ _ _ _ _ e9).mono (by decide))
        obtain ⟨S15, e9, h⟩ := lt_e h
        have g := g.ui e9 rfl
        obtain ⟨-, rfl⟩ := some_e h
        exact g
    · rcases if_c h with ⟨-, h⟩ | ⟨-, h⟩
      · exact g.trans (md_X9_next0_115 _ _ _ ih _ _ _ h)
      · obtain ⟨r18, S19, e9, h⟩ := ob_e h
        have g := g.trans ((md_X9_see _ _ _ _ _ _ e9).mono (by decide))
        obtain ⟨x21, -, h⟩ := lt_e h
        exact g.trans (md_X9_next0_115 _ _ _ ih _ _ _ h)
theorem md_X9_next0_206 {r : Unit} {Z : HS} (cs : List (Nat × Nat)) (N : Nat) (K164 : Int32 → HS → Option (Unit × HS)) (hK164 : ∀ (v2 : Int32) (S : HS), K164 v2 S = some (r, Z) → Md ml_X9_next0 S Z) (v2 : Int32) (S : HS) (h : f_X9_next0_206 cs N K164 v2 S = some (r, Z)) : Md ml_X9_next0 S Z := by
  unfold f_X9_next0_206 at h
  have g := Md.rf ml_X9_next0 S
  obtain ⟨x1, -, h⟩ := lt_e h
  obtain ⟨-, h⟩ := ck_e h
  obtain ⟨S4, e9, h⟩ := lt_e h
  have g := g.ui e9 rfl
  exact g.trans (hK164 _ _ h)
theorem md_X9_next0_164 {r : Unit} {Z : HS} (cs : List (Nat × Nat)) (N : Nat)  : ∀ (n : Nat) (v2 : Int32) (S : HS), f_X9_next0_164 cs N n v2 S = some (r, Z) → Md ml_X9_next0 S Z := by
  intro n
  induction n with
  | zero => intro v2 S h; cases h
  | succ n ih =>
    intro v2 S h
    rw [f_X9_next0_164] at h
    have g := Md.rf ml_X9_next0 S
    obtain ⟨-, h⟩ := ck_e h
    obtain ⟨r2, S3, e9, h⟩ := ob_e h
    have g := g.trans ((md_X9_see _ _ _ _ _ _ e9).mono (by decide))
    obtain ⟨r5, S6, e9, h⟩ := ob_e h
    have g := g.trans ((md_X9_isDigit _ _ _ _ _ _ e9).mono (by decide))
    rcases if_c h with ⟨-, h⟩ | ⟨-, h⟩
    · rcases if_c h with ⟨-, h⟩ | ⟨-, h⟩
      · obtain ⟨S10, e9, h⟩ := lt_e h
        have g := g.ui e9 rfl
        obtain ⟨-, rfl⟩ := some_e h
        exact g
      · obtain ⟨S12, e9, h⟩ := lt_e h
        have g := g.ui e9 rfl
        obtain ⟨-, rfl⟩ := some_e h
        exact g
    · rcases if_c h with ⟨-, h⟩ | ⟨-, h⟩
      · exact g.trans (md_X9_next0_206 _ _ _ ih _ _ h)
      · obtain ⟨r15, S16, e9, h⟩ := ob_e h
        have g := g.trans ((md_X9_see _ _ _ _ _ _ e9).mono (by decide))
        obtain ⟨S18, e9, h⟩ := lt_e h
        have g := g.ui e9 rfl
        exact g.trans (md_X9_next0_206 _ _ _ ih _ _ h)
theorem md_X9_next0_0 {r : Unit} {Z : HS} (cs : List (Nat × Nat)) (N : Nat)  : ∀ (n : Nat)  (S : HS), f_X9_next0_0 cs N n  S = some (r, Z) → Md ml_X9_next0 S Z := by
  intro n
  induction n with
  | zero => intro  S h; cases h
  | succ n ih =>
    intro  S h
    rw [f_X9_next0_0] at h
    have g := Md.rf ml_X9_next0 S
    obtain ⟨-, h⟩ := ck_e h
    obtain ⟨r2, S3, e9, h⟩ := ob_e h
    have g := g.trans ((md_X9_see _ _ _ _ _ _ e9).mono (by decide))
    rcases if_c h with ⟨-, h⟩ | ⟨-, h⟩
    · obtain ⟨S6, e9, h⟩ := lt_e h
      have g := g.ui e9 rfl
      exact g.trans (ih _ h)
    · obtain ⟨r8, S9, e9, h⟩ := ob_e h
      have g := g.trans ((md_X9_see _ _ _ _ _ _ e9).mono (by decide))
      rcases if_c h with ⟨-, h⟩ | ⟨-, h⟩
      · obtain ⟨S37, e9, h⟩ := lt_e h
        have g := g.ui e9 rfl
        exact g.trans (ih _ h)
      · obtain ⟨S12, e9, h⟩ := lt_e h
        have g := g.ui e9 rfl
        obtain ⟨r14, S15, e9, h⟩ := ob_e h
        have g := g.trans ((md_X9_see _ _ _ _ _ _ e9).mono (by decide))
        rcases if_c h with ⟨-, h⟩ | ⟨-, h⟩
        · obtain ⟨S35, e9, h⟩ := lt_e h
          have g := g.ui e9 rfl
          obtain ⟨-, rfl⟩ := some_e h
          exact g
        · obtain ⟨r18, S19, e9, h⟩ := ob_e h
          have g := g.trans ((md_X9_isLetter _ _ _ _ _ _ e9).mono (by decide))
          rcases if_c h with ⟨-, h⟩ | ⟨-, h⟩
          · obtain ⟨r22, S23, e9, h⟩ := ob_e h
            have g := g.trans ((md_X9_isDigit _ _ _ _ _ _ e9).mono (by decide))
            rcases if_c h with ⟨-, h⟩ | ⟨-, h⟩
            · obtain ⟨S26, e9, h⟩ := lt_e h
              have g := g.ui e9 rfl
              rcases if_c h with ⟨-, h⟩ | ⟨-, h⟩
              · obtain ⟨S31, e9, h⟩ := lt_e h
                have g := g.ui e9 rfl
                obtain ⟨-, rfl⟩ := some_e h
                exact g
              · obtain ⟨S29, e9, h⟩ := lt_e h
                have g := g.ui e9 rfl
                obtain ⟨-, rfl⟩ := some_e h
                exact g
            · obtain ⟨S33, e9, h⟩ := lt_e h
              have g := g.ui e9 rfl
              exact g.trans (md_X9_next0_164 _ _ _ _ _ h)
          · exact g.trans (md_X9_next0_80 _ _ _ _ _ _ h)
theorem md_X9_next0 (cs : List (Nat × Nat)) (N : Nat)  (S : HS) (r : Unit) (Z : HS) (h : f_X9_next0 cs N  S = some (r, Z)) : Md ml_X9_next0 S Z := by
  unfold f_X9_next0 at h
  have g := Md.rf ml_X9_next0 S
  exact g.trans (md_X9_next0_0 _ _ _ _ h)

abbrev ml_X9_bad : List (Nat × Option Nat × Option Nat) := [(30, some 0, some 29), (30, some 0, some 30)]
theorem md_X9_bad (cs : List (Nat × Nat)) (N : Nat) (a1 : Int32) (S : HS) (r : Int32) (Z : HS) (h : f_X9_bad cs N a1 S = some (r, Z)) : Md ml_X9_bad S Z := by
  unfold f_X9_bad at h
  have g := Md.rf ml_X9_bad S
  obtain ⟨-, h⟩ := ck_e h
  obtain ⟨S2, e9, h⟩ := lt_e h
  have g := g.ui e9 rfl
  obtain ⟨S4, e9, h⟩ := lt_e h
  have g := g.ui e9 rfl
  obtain ⟨-, rfl⟩ := some_e h
  exact g

abbrev ml_X9_need : List (Nat × Option Nat × Option Nat) := [(30, some 0, some 25), (30, some 0, some 26), (30, some 0, some 27), (30, some 0, some 28), (30, some 0, some 29), (30, some 0, some 30)]
theorem md_X9_need (cs : List (Nat × Nat)) (N : Nat) (a1 : Int32) (S : HS) (r : Int32) (Z : HS) (h : f_X9_need cs N a1 S = some (r, Z)) : Md ml_X9_need S Z := by
  unfold f_X9_need at h
  have g := Md.rf ml_X9_need S
  obtain ⟨-, h⟩ := ck_e h
  rcases if_c h with ⟨-, h⟩ | ⟨-, h⟩
  · obtain ⟨r3, S4, e9, h⟩ := ob_e h
    have g := g.trans ((md_X9_next0 _ _ _ _ _ e9).mono (by decide))
    obtain ⟨-, rfl⟩ := some_e h
    exact g
  · obtain ⟨r6, S7, e9, h⟩ := ob_e h
    have g := g.trans ((md_X9_bad _ _ _ _ _ _ e9).mono (by decide))
    obtain ⟨-, h⟩ := ck_e h
    obtain ⟨-, rfl⟩ := some_e h
    exact g

abbrev ml_X9_aNumber : List (Nat × Option Nat × Option Nat) := [(30, some 0, some 25), (30, some 0, some 26), (30, some 0, some 27), (30, some 0, some 28), (30, some 0, some 29), (30, some 0, some 30), (30, some 0, some 33)]
theorem md_X9_aNumber (cs : List (Nat × Nat)) (N : Nat) (a1 : Int32) (a2 : Int32) (S : HS) (r : Int32) (Z : HS) (h : f_X9_aNumber cs N a1 a2 S = some (r, Z)) : Md ml_X9_aNumber S Z := by
  unfold f_X9_aNumber at h
  have g := Md.rf ml_X9_aNumber S
  obtain ⟨-, h⟩ := ck_e h
  rcases if_c h with ⟨-, h⟩ | ⟨-, h⟩
  · obtain ⟨r3, S4, e9, h⟩ := ob_e h
    have g := g.trans ((md_X9_isIn _ _ _ _ _ _ _ _ e9).mono (by decide))
    rcases if_c h with ⟨-, h⟩ | ⟨-, h⟩
    · obtain ⟨r12, S13, e9, h⟩ := ob_e h
      have g := g.trans ((md_X9_bad _ _ _ _ _ _ e9).mono (by decide))
      obtain ⟨-, h⟩ := ck_e h
      obtain ⟨-, rfl⟩ := some_e h
      exact g
    · obtain ⟨S7, e9, h⟩ := lt_e h
      have g := g.ui e9 rfl
      obtain ⟨r9, S10, e9, h⟩ := ob_e h
      have g := g.trans ((md_X9_next0 _ _ _ _ _ e9).mono (by decide))
      obtain ⟨-, rfl⟩ := some_e h
      exact g
  · obtain ⟨r16, S17, e9, h⟩ := ob_e h
    have g := g.trans ((md_X9_bad _ _ _ _ _ _ e9).mono (by decide))
    obtain ⟨-, h⟩ := ck_e h
    obtain ⟨-, rfl⟩ := some_e h
    exact g

abbrev ml_X9_aLine : List (Nat × Option Nat × Option Nat) := [(30, some 0, some 25), (30, some 0, some 26), (30, some 0, some 27), (30, some 0, some 28), (30, some 0, some 29), (30, some 0, some 30), (30, some 0, some 32), (30, some 0, some 33), (31, some 19, none)]
theorem md_X9_aLine_232 {r : Int32} {Z : HS} (cs : List (Nat × Nat)) (N : Nat)   (S : HS) (h : f_X9_aLine_232 cs N  S = some (r, Z)) : Md ml_X9_aLine S Z := by
  unfold f_X9_aLine_232 at h
  have g := Md.rf ml_X9_aLine S
  obtain ⟨-, h⟩ := ck_e h
  obtain ⟨S2, e9, h⟩ := lt_e h
  have g := g.ui e9 rfl
  obtain ⟨r4, S5, e9, h⟩ := ob_e h
  have g := g.trans ((md_X9_need _ _ _ _ _ _ e9).mono (by decide))
  obtain ⟨-, h⟩ := ck_e h
  obtain ⟨-, rfl⟩ := some_e h
  exact g
theorem md_X9_aLine_205 {r : Int32} {Z : HS} (cs : List (Nat × Nat)) (N : Nat)  (t0 : Int32) (S : HS) (h : f_X9_aLine_205 cs N t0 S = some (r, Z)) : Md ml_X9_aLine S Z := by
  unfold f_X9_aLine_205 at h
  have g := Md.rf ml_X9_aLine S
  obtain ⟨-, h⟩ := ck_e h
  obtain ⟨r2, S3, e9, h⟩ := ob_e h
  have g := g.trans ((md_X9_aNumber _ _ _ _ _ _ _ e9).mono (by decide))
  rcases if_c h with ⟨-, h⟩ | ⟨-, h⟩
  · obtain ⟨-, rfl⟩ := some_e h
    exact g
  · obtain ⟨-, h⟩ := ck_e h
    obtain ⟨-, h⟩ := ck_e h
    obtain ⟨S8, e9, h⟩ := lt_e h
    have g := g.ui e9 rfl
    exact g.trans (md_X9_aLine_232 _ _ _ h)
theorem md_X9_aLine_176 {r : Int32} {Z : HS} (cs : List (Nat × Nat)) (N : Nat)  (v1 : Int32) (t0 : Int32) (S : HS) (h : f_X9_aLine_176 cs N v1 t0 S = some (r, Z)) : Md ml_X9_aLine S Z := by
  unfold f_X9_aLine_176 at h
  have g := Md.rf ml_X9_aLine S
  obtain ⟨-, h⟩ := ck_e h
  obtain ⟨r2, S3, e9, h⟩ := ob_e h
  have g := g.trans ((md_X9_need _ _ _ _ _ _ e9).mono (by decide))
  rcases if_c h with ⟨-, h⟩ | ⟨-, h⟩
  · obtain ⟨-, rfl⟩ := some_e h
    exact g
  · rcases if_c h with ⟨-, h⟩ | ⟨-, h⟩
    · exact g.trans (md_X9_aLine_205 _ _ _ _ h)
    · obtain ⟨-, h⟩ := ck_e h
      obtain ⟨-, h⟩ := ck_e h
      exact g.trans (md_X9_aLine_205 _ _ _ _ h)
theorem md_X9_aLine_163 {r : Int32} {Z : HS} (cs : List (Nat × Nat)) (N : Nat)  (v1 : Int32) (S : HS) (h : f_X9_aLine_163 cs N v1 S = some (r, Z)) : Md ml_X9_aLine S Z := by
  unfold f_X9_aLine_163 at h
  have g := Md.rf ml_X9_aLine S
  rcases if_c h with ⟨-, h⟩ | ⟨-, h⟩
  · exact g.trans (md_X9_aLine_176 _ _ _ _ _ h)
  · exact g.trans (md_X9_aLine_176 _ _ _ _ _ h)
theorem md_X9_aLine_153 {r : Int32} {Z : HS} (cs : List (Nat × Nat)) (N : Nat)  (v1 : Int32) (S : HS) (h : f_X9_aLine_153 cs N v1 S = some (r, Z)) : Md ml_X9_aLine S Z := by
  unfold f_X9_aLine_153 at h
  have g := Md.rf ml_X9_aLine S
  rcases if_c h with ⟨-, h⟩ | ⟨-, h⟩
  · exact g.trans (md_X9_aLine_163 _ _ _ _ h)
  · rcases if_c h with ⟨-, h⟩ | ⟨-, h⟩
    · exact g.trans (md_X9_aLine_163 _ _ _ _ h)
    · exact g.trans (md_X9_aLine_232 _ _ _ h)
theorem md_X9_aLine_128 {r : Int32} {Z : HS} (cs : List (Nat × Nat)) (N : Nat)  (v1 : Int32) (t0 : Int32) (t1 : Int32) (S : HS) (h : f_X9_aLine_128 cs N v1 t0 t1 S = some (r, Z)) : Md ml_X9_aLine S Z := by
  unfold f_X9_aLine_128 at h
  have g := Md.rf ml_X9_aLine S
  obtain ⟨-, h⟩ := ck_e h
  obtain ⟨r2, S3, e9, h⟩ := ob_e h
  have g := g.trans ((md_X9_aNumber _ _ _ _ _ _ _ e9).mono (by decide))
  rcases if_c h with ⟨-, h⟩ | ⟨-, h⟩
  · obtain ⟨-, rfl⟩ := some_e h
    exact g
  · obtain ⟨-, h⟩ := ck_e h
    obtain ⟨-, h⟩ := ck_e h
    obtain ⟨S8, e9, h⟩ := lt_e h
    have g := g.ui e9 rfl
    exact g.trans (md_X9_aLine_153 _ _ _ _ h)
theorem md_X9_aLine_109 {r : Int32} {Z : HS} (cs : List (Nat × Nat)) (N : Nat)  (v1 : Int32) (t0 : Int32) (S : HS) (h : f_X9_aLine_109 cs N v1 t0 S = some (r, Z)) : Md ml_X9_aLine S Z := by
  unfold f_X9_aLine_109 at h
  have g := Md.rf ml_X9_aLine S
  obtain ⟨-, h⟩ := ck_e h
  obtain ⟨r2, S3, e9, h⟩ := ob_e h
  have g := g.trans ((md_X9_need _ _ _ _ _ _ e9).mono (by decide))
  rcases if_c h with ⟨-, h⟩ | ⟨-, h⟩
  · obtain ⟨-, rfl⟩ := some_e h
    exact g
  · rcases if_c h with ⟨-, h⟩ | ⟨-, h⟩
    · exact g.trans (md_X9_aLine_128 _ _ _ _ _ _ h)
    · exact g.trans (md_X9_aLine_128 _ _ _ _ _ _ h)
theorem md_X9_aLine (cs : List (Nat × Nat)) (N : Nat)  (S : HS) (r : Int32) (Z : HS) (h : f_X9_aLine cs N  S = some (r, Z)) : Md ml_X9_aLine S Z := by
  unfold f_X9_aLine at h
  have g := Md.rf ml_X9_aLine S
  obtain ⟨-, h⟩ := ck_e h
  obtain ⟨x2, -, h⟩ := lt_e h
  obtain ⟨r4, S5, e9, h⟩ := ob_e h
  have g := g.trans ((md_X9_isIn _ _ _ _ _ _ _ _ e9).mono (by decide))
  rcases if_c h with ⟨-, h⟩ | ⟨-, h⟩
  · obtain ⟨r30, S31, e9, h⟩ := ob_e h
    have g := g.trans ((md_X9_bad _ _ _ _ _ _ e9).mono (by decide))
    obtain ⟨-, h⟩ := ck_e h
    obtain ⟨-, rfl⟩ := some_e h
    exact g
  · rcases if_c h with ⟨-, h⟩ | ⟨-, h⟩
    · obtain ⟨r26, S27, e9, h⟩ := ob_e h
      have g := g.trans ((md_X9_bad _ _ _ _ _ _ e9).mono (by decide))
      obtain ⟨-, h⟩ := ck_e h
      obtain ⟨-, rfl⟩ := some_e h
      exact g
    · obtain ⟨r9, S10, e9, h⟩ := ob_e h
      have g := g.trans ((md_X9_next0 _ _ _ _ _ e9).mono (by decide))
      obtain ⟨r12, S13, e9, h⟩ := ob_e h
      have g := g.trans ((md_X9_aNumber _ _ _ _ _ _ _ e9).mono (by decide))
      rcases if_c h with ⟨-, h⟩ | ⟨-, h⟩
      · obtain ⟨-, rfl⟩ := some_e h
        exact g
      · obtain ⟨-, h⟩ := ck_e h
        obtain ⟨-, h⟩ := ck_e h
        obtain ⟨S18, e9, h⟩ := lt_e h
        have g := g.ui e9 rfl
        obtain ⟨-, h⟩ := ck_e h
        obtain ⟨S21, e9, h⟩ := lt_e h
        have g := g.ui e9 rfl
        rcases if_c h with ⟨-, h⟩ | ⟨-, h⟩
        · exact g.trans (md_X9_aLine_153 _ _ _ _ h)
        · rcases if_c h with ⟨-, h⟩ | ⟨-, h⟩
          · exact g.trans (md_X9_aLine_109 _ _ _ _ _ h)
          · rcases if_c h with ⟨-, h⟩ | ⟨-, h⟩
            · exact g.trans (md_X9_aLine_109 _ _ _ _ _ h)
            · exact g.trans (md_X9_aLine_109 _ _ _ _ _ h)

abbrev ml_X9_tells : List (Nat × Option Nat × Option Nat) := [(31, some 16, none), (31, some 17, none), (32, some 0, none)]
theorem md_X9_tells_78 {r : Unit} {Z : HS} (cs : List (Nat × Nat)) (N : Nat)  : ∀ (n : Nat) (v2 : Int32) (v5 : Int32) (S : HS), f_X9_tells_78 cs N n v2 v5 S = some (r, Z) → Md ml_X9_tells S Z := by
  intro n
  induction n with
  | zero => intro v2 v5 S h; cases h
  | succ n ih =>
    intro v2 v5 S h
    rw [f_X9_tells_78] at h
    have g := Md.rf ml_X9_tells S
    rcases if_c h with ⟨-, h⟩ | ⟨-, h⟩
    · obtain ⟨-, rfl⟩ := some_e h
      exact g
    · obtain ⟨-, h⟩ := ck_e h
      obtain ⟨-, h⟩ := ck_e h
      obtain ⟨-, h⟩ := ck_e h
      obtain ⟨S5, e9, h⟩ := lt_e h
      have g := g.ui e9 rfl
      obtain ⟨x7, -, h⟩ := lt_e h
      exact g.trans (ih _ _ _ h)
theorem md_X9_tells_151 {r : Unit} {Z : HS} (cs : List (Nat × Nat)) (N : Nat)  : ∀ (n : Nat) (v2 : Int32) (v4 : Int32) (v5 : Int32) (S : HS), f_X9_tells_151 cs N n v2 v4 v5 S = some (r, Z) → Md ml_X9_tells S Z := by
  intro n
  induction n with
  | zero => intro v2 v4 v5 S h; cases h
  | succ n ih =>
    intro v2 v4 v5 S h
    rw [f_X9_tells_151] at h
    have g := Md.rf ml_X9_tells S
    rcases if_c h with ⟨-, h⟩ | ⟨-, h⟩
    · obtain ⟨-, rfl⟩ := some_e h
      exact g
    · obtain ⟨-, h⟩ := ck_e h
      obtain ⟨-, h⟩ := ck_e h
      obtain ⟨-, h⟩ := ck_e h
      obtain ⟨S5, e9, h⟩ := lt_e h
      have g := g.ui e9 rfl
      obtain ⟨x7, -, h⟩ := lt_e h
      exact g.trans (ih _ _ _ _ h)
theorem md_X9_tells (cs : List (Nat × Nat)) (N : Nat) (a1 : Int32) (S : HS) (r : Unit) (Z : HS) (h : f_X9_tells cs N a1 S = some (r, Z)) : Md ml_X9_tells S Z := by
  unfold f_X9_tells at h
  have g := Md.rf ml_X9_tells S
  obtain ⟨-, h⟩ := ck_e h
  obtain ⟨-, h⟩ := ck_e h
  obtain ⟨-, h⟩ := ck_e h
  obtain ⟨x4, -, h⟩ := lt_e h
  obtain ⟨-, h⟩ := ck_e h
  obtain ⟨x7, -, h⟩ := lt_e h
  obtain ⟨-, h⟩ := ck_e h
  obtain ⟨x10, -, h⟩ := lt_e h
  obtain ⟨-, h⟩ := ck_e h
  rcases if_c h with ⟨-, h⟩ | ⟨-, h⟩
  · obtain ⟨-, h⟩ := ck_e h
    obtain ⟨-, h⟩ := ck_e h
    obtain ⟨S16, e9, h⟩ := lt_e h
    have g := g.ui e9 rfl
    exact g.trans (md_X9_tells_78 _ _ _ _ _ _ h)
  · rcases if_c h with ⟨-, h⟩ | ⟨-, h⟩
    · obtain ⟨-, h⟩ := ck_e h
      obtain ⟨-, h⟩ := ck_e h
      rcases if_c h with ⟨-, h⟩ | ⟨-, h⟩
      · obtain ⟨-, h⟩ := ck_e h
        obtain ⟨S23, e9, h⟩ := lt_e h
        have g := g.ui e9 rfl
        obtain ⟨-, rfl⟩ := some_e h
        exact g
      · obtain ⟨-, h⟩ := ck_e h
        obtain ⟨-, h⟩ := ck_e h
        obtain ⟨S27, e9, h⟩ := lt_e h
        have g := g.ui e9 rfl
        obtain ⟨-, rfl⟩ := some_e h
        exact g
    · rcases if_c h with ⟨-, h⟩ | ⟨-, h⟩
      · exact g.trans (md_X9_tells_151 _ _ _ _ _ _ _ h)
      · obtain ⟨-, h⟩ := ck_e h
        obtain ⟨-, h⟩ := ck_e h
        obtain ⟨S32, e9, h⟩ := lt_e h
        have g := g.ui e9 rfl
        obtain ⟨-, rfl⟩ := some_e h
        exact g

abbrev ml_X9_custom : List (Nat × Option Nat × Option Nat) := [(30, some 0, some 24), (30, some 0, some 25), (30, some 0, some 26), (30, some 0, some 27), (30, some 0, some 28), (30, some 0, some 29), (30, some 0, some 30), (30, some 0, some 31), (30, some 0, some 32), (30, some 0, some 33), (30, some 0, some 34), (31, some 16, none), (31, some 17, none), (31, some 19, none), (32, some 0, none)]
theorem md_X9_custom_116 {r : Int32} {Z : HS} (cs : List (Nat × Nat)) (N : Nat) (K77 : Int32 → HS → Option (Int32 × HS)) (hK77 : ∀ (v2 : Int32) (S : HS), K77 v2 S = some (r, Z) → Md ml_X9_custom S Z) : ∀ (n : Nat) (v2 : Int32) (v3 : Int32) (S : HS), f_X9_custom_116 cs N K77 n v2 v3 S = some (r, Z) → Md ml_X9_custom S Z := by
  intro n
  induction n with
  | zero => intro v2 v3 S h; cases h
  | succ n ih =>
    intro v2 v3 S h
    rw [f_X9_custom_116] at h
    have g := Md.rf ml_X9_custom S
    rcases if_c h with ⟨-, h⟩ | ⟨-, h⟩
    · obtain ⟨x2, -, h⟩ := lt_e h
      exact g.trans (hK77 _ _ h)
    · obtain ⟨-, h⟩ := ck_e h
      obtain ⟨-, h⟩ := ck_e h
      obtain ⟨-, h⟩ := ck_e h
      obtain ⟨S7, e9, h⟩ := lt_e h
      have g := g.ui e9 rfl
      obtain ⟨x9, -, h⟩ := lt_e h
      exact g.trans (ih _ _ _ h)
theorem md_X9_custom_92 {r : Int32} {Z : HS} (cs : List (Nat × Nat)) (N : Nat) (K77 : Int32 → HS → Option (Int32 × HS)) (hK77 : ∀ (v2 : Int32) (S : HS), K77 v2 S = some (r, Z) → Md ml_X9_custom S Z) : ∀ (n : Nat) (v2 : Int32) (v3 : Int32) (S : HS), f_X9_custom_92 cs N K77 n v2 v3 S = some (r, Z) → Md ml_X9_custom S Z := by
  intro n
  induction n with
  | zero => intro v2 v3 S h; cases h
  | succ n ih =>
    intro v2 v3 S h
    rw [f_X9_custom_92] at h
    have g := Md.rf ml_X9_custom S
    rcases if_c h with ⟨-, h⟩ | ⟨-, h⟩
    · exact g.trans (md_X9_custom_116 _ _ _ hK77 _ _ _ _ h)
    · obtain ⟨-, h⟩ := ck_e h
      obtain ⟨-, h⟩ := ck_e h
      obtain ⟨-, h⟩ := ck_e h
      obtain ⟨S5, e9, h⟩ := lt_e h
      have g := g.ui e9 rfl
      obtain ⟨x7, -, h⟩ := lt_e h
      exact g.trans (ih _ _ _ h)
theorem md_X9_custom_148 {r : Int32} {Z : HS} (cs : List (Nat × Nat)) (N : Nat)  : ∀ (n : Nat) (v2 : Int32) (S : HS), f_X9_custom_148 cs N n v2 S = some (r, Z) → Md ml_X9_custom S Z := by
  intro n
  induction n with
  | zero => intro v2 S h; cases h
  | succ n ih =>
    intro v2 S h
    rw [f_X9_custom_148] at h
    have g := Md.rf ml_X9_custom S
    obtain ⟨-, h⟩ := ck_e h
    rcases if_c h with ⟨-, h⟩ | ⟨-, h⟩
    · obtain ⟨-, rfl⟩ := some_e h
      exact g
    · obtain ⟨r3, S4, e9, h⟩ := ob_e h
      have g := g.trans ((md_X9_tells _ _ _ _ _ _ e9).mono (by decide))
      obtain ⟨x6, -, h⟩ := lt_e h
      exact g.trans (ih _ _ h)
theorem md_X9_custom_77 {r : Int32} {Z : HS} (cs : List (Nat × Nat)) (N : Nat)  : ∀ (n : Nat) (v2 : Int32) (S : HS), f_X9_custom_77 cs N n v2 S = some (r, Z) → Md ml_X9_custom S Z := by
  intro n
  induction n with
  | zero => intro v2 S h; cases h
  | succ n ih =>
    intro v2 S h
    rw [f_X9_custom_77] at h
    have g := Md.rf ml_X9_custom S
    rcases if_c h with ⟨-, h⟩ | ⟨-, h⟩
    · exact g.trans (md_X9_custom_148 _ _ _ _ _ h)
    · obtain ⟨-, h⟩ := ck_e h
      obtain ⟨-, h⟩ := ck_e h
      obtain ⟨-, h⟩ := ck_e h
      obtain ⟨S5, e9, h⟩ := lt_e h
      have g := g.ui e9 rfl
      exact g.trans (md_X9_custom_92 _ _ _ ih _ _ _ _ h)
theorem md_X9_custom_66 {r : Int32} {Z : HS} (cs : List (Nat × Nat)) (N : Nat)  (v1 : Int32) (t0 : Int32) (S : HS) (h : f_X9_custom_66 cs N v1 t0 S = some (r, Z)) : Md ml_X9_custom S Z := by
  unfold f_X9_custom_66 at h
  have g := Md.rf ml_X9_custom S
  obtain ⟨-, h⟩ := ck_e h
  obtain ⟨S2, e9, h⟩ := lt_e h
  have g := g.ui e9 rfl
  rcases if_c h with ⟨-, h⟩ | ⟨-, h⟩
  · obtain ⟨-, rfl⟩ := some_e h
    exact g
  · exact g.trans (md_X9_custom_77 _ _ _ _ _ h)
theorem md_X9_custom_40 {r : Int32} {Z : HS} (cs : List (Nat × Nat)) (N : Nat)  (v1 : Int32) (S : HS) (h : f_X9_custom_40 cs N v1 S = some (r, Z)) : Md ml_X9_custom S Z := by
  unfold f_X9_custom_40 at h
  have g := Md.rf ml_X9_custom S
  obtain ⟨-, h⟩ := ck_e h
  obtain ⟨S2, e9, h⟩ := lt_e h
  have g := g.ui e9 rfl
  obtain ⟨S4, e9, h⟩ := lt_e h
  have g := g.ui e9 rfl
  rcases if_c h with ⟨-, h⟩ | ⟨-, h⟩
  · exact g.trans (md_X9_custom_66 _ _ _ _ _ h)
  · exact g.trans (md_X9_custom_66 _ _ _ _ _ h)
theorem md_X9_custom_21 {r : Int32} {Z : HS} (cs : List (Nat × Nat)) (N : Nat)  : ∀ (n : Nat) (v1 : Int32) (S : HS), f_X9_custom_21 cs N n v1 S = some (r, Z) → Md ml_X9_custom S Z := by
  intro n
  induction n with
  | zero => intro v1 S h; cases h
  | succ n ih =>
    intro v1 S h
    rw [f_X9_custom_21] at h
    have g := Md.rf ml_X9_custom S
    rcases if_c h with ⟨-, h⟩ | ⟨-, h⟩
    · exact g.trans (md_X9_custom_40 _ _ _ _ h)
    · obtain ⟨-, h⟩ := ck_e h
      rcases if_c h with ⟨-, h⟩ | ⟨-, h⟩
      · exact g.trans (md_X9_custom_40 _ _ _ _ h)
      · obtain ⟨r4, S5, e9, h⟩ := ob_e h
        have g := g.trans ((md_X9_aLine _ _ _ _ _ e9).mono (by decide))
        exact g.trans (ih _ _ h)
theorem md_X9_custom (cs : List (Nat × Nat)) (N : Nat)  (S : HS) (r : Int32) (Z : HS) (h : f_X9_custom cs N  S = some (r, Z)) : Md ml_X9_custom S Z := by
  unfold f_X9_custom at h
  have g := Md.rf ml_X9_custom S
  obtain ⟨-, h⟩ := ck_e h
  obtain ⟨S2, e9, h⟩ := lt_e h
  have g := g.ui e9 rfl
  obtain ⟨S4, e9, h⟩ := lt_e h
  have g := g.ui e9 rfl
  obtain ⟨S6, e9, h⟩ := lt_e h
  have g := g.ui e9 rfl
  obtain ⟨r8, S9, e9, h⟩ := ob_e h
  have g := g.trans ((md_X9_next0 _ _ _ _ _ e9).mono (by decide))
  exact g.trans (md_X9_custom_21 _ _ _ _ _ h)

abbrev ml_X9_fault : List (Nat × Option Nat × Option Nat) := []
theorem md_X9_fault (cs : List (Nat × Nat)) (N : Nat) (a1 : Int32) (S : HS) (r : Int32) (Z : HS) (h : f_X9_fault cs N a1 S = some (r, Z)) : Md ml_X9_fault S Z := by
  unfold f_X9_fault at h
  have g := Md.rf ml_X9_fault S
  rcases if_c h with ⟨-, h⟩ | ⟨-, h⟩
  · obtain ⟨-, h⟩ := ck_e h
    obtain ⟨-, rfl⟩ := some_e h
    exact g
  · rcases if_c h with ⟨-, h⟩ | ⟨-, h⟩
    · obtain ⟨-, h⟩ := ck_e h
      obtain ⟨-, rfl⟩ := some_e h
      exact g
    · obtain ⟨-, rfl⟩ := some_e h
      exact g

abbrev ml_X9_isAllowed : List (Nat × Option Nat × Option Nat) := []
theorem md_X9_isAllowed (cs : List (Nat × Nat)) (N : Nat) (a1 : Int32) (a2 : Int32) (a3 : Int32) (S : HS) (r : Int32) (Z : HS) (h : f_X9_isAllowed cs N a1 a2 a3 S = some (r, Z)) : Md ml_X9_isAllowed S Z := by
  unfold f_X9_isAllowed at h
  have g := Md.rf ml_X9_isAllowed S
  obtain ⟨-, h⟩ := ck_e h
  obtain ⟨-, h⟩ := ck_e h
  obtain ⟨-, h⟩ := ck_e h
  rcases if_c h with ⟨-, h⟩ | ⟨-, h⟩
  · obtain ⟨-, h⟩ := ck_e h
    obtain ⟨-, h⟩ := ck_e h
    rcases if_c h with ⟨-, h⟩ | ⟨-, h⟩
    · obtain ⟨-, rfl⟩ := some_e h
      exact g
    · obtain ⟨-, h⟩ := ck_e h
      rcases if_c h with ⟨-, h⟩ | ⟨-, h⟩
      · obtain ⟨-, rfl⟩ := some_e h
        exact g
      · obtain ⟨-, h⟩ := ck_e h
        obtain ⟨-, h⟩ := ck_e h
        rcases if_c h with ⟨-, h⟩ | ⟨-, h⟩
        · obtain ⟨-, rfl⟩ := some_e h
          exact g
        · obtain ⟨-, rfl⟩ := some_e h
          exact g
  · obtain ⟨-, rfl⟩ := some_e h
    exact g

abbrev ml_X9_may : List (Nat × Option Nat × Option Nat) := []
theorem md_X9_may (cs : List (Nat × Nat)) (N : Nat) (a1 : Int32) (a2 : Int32) (a3 : Int32) (S : HS) (r : Int32) (Z : HS) (h : f_X9_may cs N a1 a2 a3 S = some (r, Z)) : Md ml_X9_may S Z := by
  unfold f_X9_may at h
  have g := Md.rf ml_X9_may S
  obtain ⟨r1, S2, e9, h⟩ := ob_e h
  have g := g.trans ((md_X9_isFamily _ _ _ _ _ _ e9).mono (by decide))
  rcases if_c h with ⟨-, h⟩ | ⟨-, h⟩
  · obtain ⟨-, rfl⟩ := some_e h
    exact g
  · obtain ⟨r5, S6, e9, h⟩ := ob_e h
    have g := g.trans ((md_X9_isPattern _ _ _ _ _ _ e9).mono (by decide))
    rcases if_c h with ⟨-, h⟩ | ⟨-, h⟩
    · obtain ⟨-, rfl⟩ := some_e h
      exact g
    · obtain ⟨r9, S10, e9, h⟩ := ob_e h
      have g := g.trans ((md_X9_isWeek _ _ _ _ _ _ _ e9).mono (by decide))
      rcases if_c h with ⟨-, h⟩ | ⟨-, h⟩
      · obtain ⟨-, rfl⟩ := some_e h
        exact g
      · obtain ⟨-, h⟩ := ck_e h
        obtain ⟨r14, S15, e9, h⟩ := ob_e h
        have g := g.trans ((md_X9_isAllowed _ _ _ _ _ _ _ _ e9).mono (by decide))
        rcases if_c h with ⟨-, h⟩ | ⟨-, h⟩
        · obtain ⟨-, rfl⟩ := some_e h
          exact g
        · obtain ⟨-, rfl⟩ := some_e h
          exact g

abbrev ml_X9_left : List (Nat × Option Nat × Option Nat) := []
theorem md_X9_left (cs : List (Nat × Nat)) (N : Nat) (a1 : Int32) (a2 : Int32) (S : HS) (r : Int32) (Z : HS) (h : f_X9_left cs N a1 a2 S = some (r, Z)) : Md ml_X9_left S Z := by
  unfold f_X9_left at h
  have g := Md.rf ml_X9_left S
  obtain ⟨-, h⟩ := ck_e h
  obtain ⟨-, h⟩ := ck_e h
  obtain ⟨-, h⟩ := ck_e h
  rcases if_c h with ⟨-, h⟩ | ⟨-, h⟩
  · obtain ⟨-, h⟩ := ck_e h
    obtain ⟨-, h⟩ := ck_e h
    obtain ⟨-, h⟩ := ck_e h
    obtain ⟨-, h⟩ := ck_e h
    obtain ⟨-, rfl⟩ := some_e h
    exact g
  · obtain ⟨-, h⟩ := ck_e h
    obtain ⟨-, h⟩ := ck_e h
    obtain ⟨-, rfl⟩ := some_e h
    exact g

abbrev ml_X9_sorts : List (Nat × Option Nat × Option Nat) := [(30, some 0, some 36), (31, some 20, none)]
theorem md_X9_sorts_77 {r : Unit} {Z : HS} (cs : List (Nat × Nat)) (N : Nat) (K7 : Int32 → Int32 → HS → Option (Unit × HS)) (hK7 : ∀ (v1 : Int32) (v2 : Int32) (S : HS), K7 v1 v2 S = some (r, Z) → Md ml_X9_sorts S Z) (v1 : Int32) (v2 : Int32) (v3 : Int32) (S : HS) (h : f_X9_sorts_77 cs N K7 v1 v2 v3 S = some (r, Z)) : Md ml_X9_sorts S Z := by
  unfold f_X9_sorts_77 at h
  have g := Md.rf ml_X9_sorts S
  obtain ⟨-, h⟩ := ck_e h
  obtain ⟨-, h⟩ := ck_e h
  obtain ⟨-, h⟩ := ck_e h
  obtain ⟨S4, e9, h⟩ := lt_e h
  have g := g.ui e9 rfl
  obtain ⟨S6, e9, h⟩ := lt_e h
  have g := g.ui e9 rfl
  obtain ⟨x8, -, h⟩ := lt_e h
  exact g.trans (hK7 _ _ _ h)
theorem md_X9_sorts_31 {r : Unit} {Z : HS} (cs : List (Nat × Nat)) (N : Nat) (K7 : Int32 → Int32 → HS → Option (Unit × HS)) (hK7 : ∀ (v1 : Int32) (v2 : Int32) (S : HS), K7 v1 v2 S = some (r, Z) → Md ml_X9_sorts S Z) : ∀ (n : Nat) (v1 : Int32) (v2 : Int32) (v3 : Int32) (S : HS), f_X9_sorts_31 cs N K7 n v1 v2 v3 S = some (r, Z) → Md ml_X9_sorts S Z := by
  intro n
  induction n with
  | zero => intro v1 v2 v3 S h; cases h
  | succ n ih =>
    intro v1 v2 v3 S h
    rw [f_X9_sorts_31] at h
    have g := Md.rf ml_X9_sorts S
    rcases if_c h with ⟨-, h⟩ | ⟨-, h⟩
    · exact g.trans (md_X9_sorts_77 _ _ _ hK7 _ _ _ _ h)
    · obtain ⟨-, h⟩ := ck_e h
      obtain ⟨-, h⟩ := ck_e h
      obtain ⟨-, h⟩ := ck_e h
      obtain ⟨-, h⟩ := ck_e h
      obtain ⟨-, h⟩ := ck_e h
      obtain ⟨-, h⟩ := ck_e h
      rcases if_c h with ⟨-, h⟩ | ⟨-, h⟩
      · exact g.trans (md_X9_sorts_77 _ _ _ hK7 _ _ _ _ h)
      · obtain ⟨-, h⟩ := ck_e h
        obtain ⟨-, h⟩ := ck_e h
        obtain ⟨S11, e9, h⟩ := lt_e h
        have g := g.ui e9 rfl
        obtain ⟨x13, -, h⟩ := lt_e h
        exact g.trans (ih _ _ _ _ h)
theorem md_X9_sorts_7 {r : Unit} {Z : HS} (cs : List (Nat × Nat)) (N : Nat)  : ∀ (n : Nat) (v1 : Int32) (v2 : Int32) (S : HS), f_X9_sorts_7 cs N n v1 v2 S = some (r, Z) → Md ml_X9_sorts S Z := by
  intro n
  induction n with
  | zero => intro v1 v2 S h; cases h
  | succ n ih =>
    intro v1 v2 S h
    rw [f_X9_sorts_7] at h
    have g := Md.rf ml_X9_sorts S
    obtain ⟨-, h⟩ := ck_e h
    rcases if_c h with ⟨-, h⟩ | ⟨-, h⟩
    · obtain ⟨-, rfl⟩ := some_e h
      exact g
    · rcases if_c h with ⟨-, h⟩ | ⟨-, h⟩
      · obtain ⟨x6, -, h⟩ := lt_e h
        exact g.trans (ih _ _ _ h)
      · obtain ⟨x4, -, h⟩ := lt_e h
        exact g.trans (md_X9_sorts_31 _ _ _ ih _ _ _ _ _ h)
theorem md_X9_sorts (cs : List (Nat × Nat)) (N : Nat) (a1 : Int32) (S : HS) (r : Unit) (Z : HS) (h : f_X9_sorts cs N a1 S = some (r, Z)) : Md ml_X9_sorts S Z := by
  unfold f_X9_sorts at h
  have g := Md.rf ml_X9_sorts S
  obtain ⟨-, h⟩ := ck_e h
  obtain ⟨S2, e9, h⟩ := lt_e h
  have g := g.ui e9 rfl
  exact g.trans (md_X9_sorts_7 _ _ _ _ _ _ h)

abbrev ml_X9_does : List (Nat × Option Nat × Option Nat) := [(30, some 0, some 36), (31, some 20, none), (31, some 21, none)]
theorem md_X9_does_194 {r : Int32} {Z : HS} (cs : List (Nat × Nat)) (N : Nat) (K32 : Int32 → Int32 → Int32 → Int32 → Int32 → HS → Option (Int32 × HS)) (hK32 : ∀ (v1 : Int32) (v3 : Int32) (v4 : Int32) (v5 : Int32) (v6 : Int32) (S : HS), K32 v1 v3 v4 v5 v6 S = some (r, Z) → Md ml_X9_does S Z) : ∀ (n : Nat) (v1 : Int32) (v3 : Int32) (v4 : Int32) (v5 : Int32) (v6 : Int32) (v7 : Int32) (v10 : Int32) (S : HS), f_X9_does_194 cs N K32 n v1 v3 v4 v5 v6 v7 v10 S = some (r, Z) → Md ml_X9_does S Z := by
  intro n
  induction n with
  | zero => intro v1 v3 v4 v5 v6 v7 v10 S h; cases h
  | succ n ih =>
    intro v1 v3 v4 v5 v6 v7 v10 S h
    rw [f_X9_does_194] at h
    have g := Md.rf ml_X9_does S
    rcases if_c h with ⟨-, h⟩ | ⟨-, h⟩
    · obtain ⟨x2, -, h⟩ := lt_e h
      exact g.trans (hK32 _ _ _ _ _ _ h)
    · obtain ⟨-, h⟩ := ck_e h
      obtain ⟨-, h⟩ := ck_e h
      obtain ⟨-, h⟩ := ck_e h
      obtain ⟨r7, S8, e9, h⟩ := ob_e h
      have g := g.trans ((md_X9_isAllowed _ _ _ _ _ _ _ _ e9).mono (by decide))
      rcases if_c h with ⟨-, h⟩ | ⟨-, h⟩
      · obtain ⟨-, rfl⟩ := some_e h
        exact g
      · obtain ⟨x11, -, h⟩ := lt_e h
        exact g.trans (ih _ _ _ _ _ _ _ _ h)
theorem md_X9_does_117 {r : Int32} {Z : HS} (cs : List (Nat × Nat)) (N : Nat) (K32 : Int32 → Int32 → Int32 → Int32 → Int32 → HS → Option (Int32 × HS)) (hK32 : ∀ (v1 : Int32) (v3 : Int32) (v4 : Int32) (v5 : Int32) (v6 : Int32) (S : HS), K32 v1 v3 v4 v5 v6 S = some (r, Z) → Md ml_X9_does S Z) : ∀ (n : Nat) (v1 : Int32) (v3 : Int32) (v4 : Int32) (v5 : Int32) (v6 : Int32) (v7 : Int32) (v8 : Int32) (v9 : Int32) (S : HS), f_X9_does_117 cs N K32 n v1 v3 v4 v5 v6 v7 v8 v9 S = some (r, Z) → Md ml_X9_does S Z := by
  intro n
  induction n with
  | zero => intro v1 v3 v4 v5 v6 v7 v8 v9 S h; cases h
  | succ n ih =>
    intro v1 v3 v4 v5 v6 v7 v8 v9 S h
    rw [f_X9_does_117] at h
    have g := Md.rf ml_X9_does S
    rcases if_c h with ⟨-, h⟩ | ⟨-, h⟩
    · obtain ⟨x2, -, h⟩ := lt_e h
      obtain ⟨-, h⟩ := ck_e h
      obtain ⟨-, h⟩ := ck_e h
      obtain ⟨-, h⟩ := ck_e h
      obtain ⟨S7, e9, h⟩ := lt_e h
      have g := g.ui e9 rfl
      obtain ⟨-, h⟩ := ck_e h
      obtain ⟨-, h⟩ := ck_e h
      rcases if_c h with ⟨-, h⟩ | ⟨-, h⟩
      · exact g.trans (md_X9_does_194 _ _ _ hK32 _ _ _ _ _ _ _ _ _ h)
      · obtain ⟨-, rfl⟩ := some_e h
        exact g
    · rcases if_c h with ⟨-, h⟩ | ⟨-, h⟩
      · obtain ⟨-, rfl⟩ := some_e h
        exact g
      · obtain ⟨x13, -, h⟩ := lt_e h
        obtain ⟨x15, -, h⟩ := lt_e h
        obtain ⟨-, h⟩ := ck_e h
        obtain ⟨-, h⟩ := ck_e h
        obtain ⟨-, h⟩ := ck_e h
        obtain ⟨x20, -, h⟩ := lt_e h
        exact g.trans (ih _ _ _ _ _ _ _ _ _ h)
theorem md_X9_does_104 {r : Int32} {Z : HS} (cs : List (Nat × Nat)) (N : Nat) (K32 : Int32 → Int32 → Int32 → Int32 → Int32 → HS → Option (Int32 × HS)) (hK32 : ∀ (v1 : Int32) (v3 : Int32) (v4 : Int32) (v5 : Int32) (v6 : Int32) (S : HS), K32 v1 v3 v4 v5 v6 S = some (r, Z) → Md ml_X9_does S Z) (v1 : Int32) (v3 : Int32) (v4 : Int32) (v5 : Int32) (v6 : Int32) (v7 : Int32) (S : HS) (h : f_X9_does_104 cs N K32 v1 v3 v4 v5 v6 v7 S = some (r, Z)) : Md ml_X9_does S Z := by
  unfold f_X9_does_104 at h
  have g := Md.rf ml_X9_does S
  obtain ⟨-, h⟩ := ck_e h
  obtain ⟨r2, S3, e9, h⟩ := ob_e h
  have g := g.trans ((md_X9_left _ _ _ _ _ _ _ e9).mono (by decide))
  exact g.trans (md_X9_does_117 _ _ _ hK32 _ _ _ _ _ _ _ _ _ _ h)
theorem md_X9_does_72 {r : Int32} {Z : HS} (cs : List (Nat × Nat)) (N : Nat) (K32 : Int32 → Int32 → Int32 → Int32 → Int32 → HS → Option (Int32 × HS)) (hK32 : ∀ (v1 : Int32) (v3 : Int32) (v4 : Int32) (v5 : Int32) (v6 : Int32) (S : HS), K32 v1 v3 v4 v5 v6 S = some (r, Z) → Md ml_X9_does S Z) : ∀ (n : Nat) (v1 : Int32) (v3 : Int32) (v4 : Int32) (v5 : Int32) (v6 : Int32) (v7 : Int32) (S : HS), f_X9_does_72 cs N K32 n v1 v3 v4 v5 v6 v7 S = some (r, Z) → Md ml_X9_does S Z := by
  intro n
  induction n with
  | zero => intro v1 v3 v4 v5 v6 v7 S h; cases h
  | succ n ih =>
    intro v1 v3 v4 v5 v6 v7 S h
    rw [f_X9_does_72] at h
    have g := Md.rf ml_X9_does S
    rcases if_c h with ⟨-, h⟩ | ⟨-, h⟩
    · rcases if_c h with ⟨-, h⟩ | ⟨-, h⟩
      · exact g.trans (md_X9_does_104 _ _ _ hK32 _ _ _ _ _ _ _ h)
      · obtain ⟨x3, -, h⟩ := lt_e h
        obtain ⟨-, h⟩ := ck_e h
        obtain ⟨-, h⟩ := ck_e h
        obtain ⟨-, h⟩ := ck_e h
        obtain ⟨x8, -, h⟩ := lt_e h
        exact g.trans (ih _ _ _ _ _ _ _ h)
    · exact g.trans (md_X9_does_104 _ _ _ hK32 _ _ _ _ _ _ _ h)
theorem md_X9_does_32 {r : Int32} {Z : HS} (cs : List (Nat × Nat)) (N : Nat)  : ∀ (n : Nat) (v1 : Int32) (v3 : Int32) (v4 : Int32) (v5 : Int32) (v6 : Int32) (S : HS), f_X9_does_32 cs N n v1 v3 v4 v5 v6 S = some (r, Z) → Md ml_X9_does S Z := by
  intro n
  induction n with
  | zero => intro v1 v3 v4 v5 v6 S h; cases h
  | succ n ih =>
    intro v1 v3 v4 v5 v6 S h
    rw [f_X9_does_32] at h
    have g := Md.rf ml_X9_does S
    obtain ⟨-, h⟩ := ck_e h
    rcases if_c h with ⟨-, h⟩ | ⟨-, h⟩
    · obtain ⟨-, rfl⟩ := some_e h
      exact g
    · obtain ⟨-, h⟩ := ck_e h
      obtain ⟨-, h⟩ := ck_e h
      obtain ⟨x5, -, h⟩ := lt_e h
      obtain ⟨-, h⟩ := ck_e h
      obtain ⟨-, h⟩ := ck_e h
      obtain ⟨x9, -, h⟩ := lt_e h
      obtain ⟨-, h⟩ := ck_e h
      obtain ⟨-, h⟩ := ck_e h
      rcases if_c h with ⟨-, h⟩ | ⟨-, h⟩
      · exact g.trans (md_X9_does_72 _ _ _ ih _ _ _ _ _ _ _ _ h)
      · obtain ⟨-, rfl⟩ := some_e h
        exact g
theorem md_X9_does (cs : List (Nat × Nat)) (N : Nat) (a1 : Int32) (a2 : Int32) (S : HS) (r : Int32) (Z : HS) (h : f_X9_does cs N a1 a2 S = some (r, Z)) : Md ml_X9_does S Z := by
  unfold f_X9_does at h
  have g := Md.rf ml_X9_does S
  obtain ⟨-, h⟩ := ck_e h
  obtain ⟨r2, S3, e9, h⟩ := ob_e h
  have g := g.trans ((md_X9_sorts _ _ _ _ _ _ e9).mono (by decide))
  obtain ⟨x5, -, h⟩ := lt_e h
  obtain ⟨-, h⟩ := ck_e h
  obtain ⟨-, h⟩ := ck_e h
  obtain ⟨x9, -, h⟩ := lt_e h
  exact g.trans (md_X9_does_32 _ _ _ _ _ _ _ _ _ h)

abbrev ml_X9_canAll : List (Nat × Option Nat × Option Nat) := []
theorem md_X9_canAll (cs : List (Nat × Nat)) (N : Nat)  (S : HS) (r : Int32) (Z : HS) (h : f_X9_canAll cs N  S = some (r, Z)) : Md ml_X9_canAll S Z := by
  unfold f_X9_canAll at h
  have g := Md.rf ml_X9_canAll S
  obtain ⟨-, h⟩ := ck_e h
  obtain ⟨-, h⟩ := ck_e h
  obtain ⟨-, h⟩ := ck_e h
  obtain ⟨-, h⟩ := ck_e h
  obtain ⟨-, h⟩ := ck_e h
  rcases if_c h with ⟨-, h⟩ | ⟨-, h⟩
  · obtain ⟨-, rfl⟩ := some_e h
    exact g
  · obtain ⟨-, h⟩ := ck_e h
    obtain ⟨-, h⟩ := ck_e h
    rcases if_c h with ⟨-, h⟩ | ⟨-, h⟩
    · obtain ⟨-, rfl⟩ := some_e h
      exact g
    · obtain ⟨-, h⟩ := ck_e h
      obtain ⟨-, h⟩ := ck_e h
      rcases if_c h with ⟨-, h⟩ | ⟨-, h⟩
      · obtain ⟨-, rfl⟩ := some_e h
        exact g
      · obtain ⟨-, h⟩ := ck_e h
        obtain ⟨-, h⟩ := ck_e h
        rcases if_c h with ⟨-, h⟩ | ⟨-, h⟩
        · obtain ⟨-, rfl⟩ := some_e h
          exact g
        · obtain ⟨-, rfl⟩ := some_e h
          exact g

abbrev ml_X9_tries : List (Nat × Option Nat × Option Nat) := [(30, some 0, some 42), (30, some 0, some 43), (31, some 22, none), (31, some 23, none), (31, some 24, none)]
theorem md_X9_tries_53 {r : Unit} {Z : HS} (cs : List (Nat × Nat)) (N : Nat) (self : Int32 → Int32 → Int32 → HS → Option (Unit × HS)) (hself : ∀ (r : Unit) (Z : HS) (S : HS) (a1 : Int32) (a2 : Int32) (a3 : Int32), self a1 a2 a3 S = some (r, Z) → Md ml_X9_tries S Z)  : ∀ (n : Nat) (v4 : Int32) (S : HS), f_X9_tries_53 cs N self n v4 S = some (r, Z) → Md ml_X9_tries S Z := by
  intro n
  induction n with
  | zero => intro v4 S h; cases h
  | succ n ih =>
    intro v4 S h
    rw [f_X9_tries_53] at h
    have g := Md.rf ml_X9_tries S
    obtain ⟨-, h⟩ := ck_e h
    rcases if_c h with ⟨-, h⟩ | ⟨-, h⟩
    · obtain ⟨-, rfl⟩ := some_e h
      exact g
    · obtain ⟨-, h⟩ := ck_e h
      obtain ⟨-, h⟩ := ck_e h
      obtain ⟨-, h⟩ := ck_e h
      obtain ⟨-, h⟩ := ck_e h
      obtain ⟨S7, e9, h⟩ := lt_e h
      have g := g.ui e9 rfl
      obtain ⟨x9, -, h⟩ := lt_e h
      exact g.trans (ih _ _ h)
theorem md_X9_tries_32 {r : Unit} {Z : HS} (cs : List (Nat × Nat)) (N : Nat) (self : Int32 → Int32 → Int32 → HS → Option (Unit × HS)) (hself : ∀ (r : Unit) (Z : HS) (S : HS) (a1 : Int32) (a2 : Int32) (a3 : Int32), self a1 a2 a3 S = some (r, Z) → Md ml_X9_tries S Z)  (v2 : Int32) (v3 : Int32) (S : HS) (h : f_X9_tries_32 cs N self v2 v3 S = some (r, Z)) : Md ml_X9_tries S Z := by
  unfold f_X9_tries_32 at h
  have g := Md.rf ml_X9_tries S
  obtain ⟨-, h⟩ := ck_e h
  obtain ⟨r2, S3, e9, h⟩ := ob_e h
  have g := g.trans ((md_X9_canAll _ _ _ _ _ e9).mono (by decide))
  rcases if_c h with ⟨-, h⟩ | ⟨-, h⟩
  · obtain ⟨-, rfl⟩ := some_e h
    exact g
  · obtain ⟨S6, e9, h⟩ := lt_e h
    have g := g.ui e9 rfl
    obtain ⟨S8, e9, h⟩ := lt_e h
    have g := g.ui e9 rfl
    exact g.trans (md_X9_tries_53 _ _ _ hself _ _ _ h)
theorem md_X9_tries_166 {r : Unit} {Z : HS} (cs : List (Nat × Nat)) (N : Nat) (self : Int32 → Int32 → Int32 → HS → Option (Unit × HS)) (hself : ∀ (r : Unit) (Z : HS) (S : HS) (a1 : Int32) (a2 : Int32) (a3 : Int32), self a1 a2 a3 S = some (r, Z) → Md ml_X9_tries S Z)  (v1 : Int32) (v2 : Int32) (v3 : Int32) (S : HS) (h : f_X9_tries_166 cs N self v1 v2 v3 S = some (r, Z)) : Md ml_X9_tries S Z := by
  unfold f_X9_tries_166 at h
  have g := Md.rf ml_X9_tries S
  obtain ⟨-, h⟩ := ck_e h
  obtain ⟨-, h⟩ := ck_e h
  obtain ⟨-, h⟩ := ck_e h
  obtain ⟨S4, e9, h⟩ := lt_e h
  have g := g.ui e9 rfl
  obtain ⟨r6, S7, e9, h⟩ := ob_e h
  have g := g.trans (hself _ _ _ _ _ _ e9)
  obtain ⟨-, rfl⟩ := some_e h
  exact g
theorem md_X9_tries_86 {r : Unit} {Z : HS} (cs : List (Nat × Nat)) (N : Nat) (self : Int32 → Int32 → Int32 → HS → Option (Unit × HS)) (hself : ∀ (r : Unit) (Z : HS) (S : HS) (a1 : Int32) (a2 : Int32) (a3 : Int32), self a1 a2 a3 S = some (r, Z) → Md ml_X9_tries S Z)  : ∀ (n : Nat) (v1 : Int32) (v2 : Int32) (v3 : Int32) (v4 : Int32) (S : HS), f_X9_tries_86 cs N self n v1 v2 v3 v4 S = some (r, Z) → Md ml_X9_tries S Z := by
  intro n
  induction n with
  | zero => intro v1 v2 v3 v4 S h; cases h
  | succ n ih =>
    intro v1 v2 v3 v4 S h
    rw [f_X9_tries_86] at h
    have g := Md.rf ml_X9_tries S
    rcases if_c h with ⟨-, h⟩ | ⟨-, h⟩
    · exact g.trans (md_X9_tries_166 _ _ _ hself _ _ _ _ h)
    · obtain ⟨-, h⟩ := ck_e h
      obtain ⟨r3, S4, e9, h⟩ := ob_e h
      have g := g.trans ((md_X9_isOpen _ _ _ _ _ _ e9).mono (by decide))
      rcases if_c h with ⟨-, h⟩ | ⟨-, h⟩
      · exact g.trans (md_X9_tries_166 _ _ _ hself _ _ _ _ h)
      · obtain ⟨-, h⟩ := ck_e h
        obtain ⟨-, h⟩ := ck_e h
        obtain ⟨-, h⟩ := ck_e h
        obtain ⟨S10, e9, h⟩ := lt_e h
        have g := g.ui e9 rfl
        obtain ⟨-, h⟩ := ck_e h
        obtain ⟨-, h⟩ := ck_e h
        obtain ⟨S14, e9, h⟩ := lt_e h
        have g := g.ui e9 rfl
        obtain ⟨-, h⟩ := ck_e h
        obtain ⟨-, h⟩ := ck_e h
        obtain ⟨r18, S19, e9, h⟩ := ob_e h
        have g := g.trans ((md_X9_left _ _ _ _ _ _ _ e9).mono (by decide))
        obtain ⟨r21, S22, e9, h⟩ := ob_e h
        have g := g.trans (hself _ _ _ _ _ _ e9)
        obtain ⟨-, h⟩ := ck_e h
        obtain ⟨-, h⟩ := ck_e h
        obtain ⟨S26, e9, h⟩ := lt_e h
        have g := g.ui e9 rfl
        obtain ⟨x28, -, h⟩ := lt_e h
        exact g.trans (ih _ _ _ _ _ h)
theorem md_X9_tries (cs : List (Nat × Nat)) (N : Nat) : ∀ (d : Nat) (a1 : Int32) (a2 : Int32) (a3 : Int32) (S : HS) (r : Unit) (Z : HS), f_X9_tries cs N d a1 a2 a3 S = some (r, Z) → Md ml_X9_tries S Z := by
  intro d
  induction d with
  | zero => intro a1 a2 a3 S r Z h; cases h
  | succ d hself0 =>
    intro a1 a2 a3 S r Z h
    have hself : ∀ (r : Unit) (Z : HS) (S : HS) (a1 : Int32) (a2 : Int32) (a3 : Int32), f_X9_tries cs N d a1 a2 a3 S = some (r, Z) → Md ml_X9_tries S Z := fun r Z S a1 a2 a3 h => hself0 a1 a2 a3 S r Z h
    have h : f_X9_tries_0 cs N (f_X9_tries cs N d) a1 a2 a3 S = some (r, Z) := h
    unfold f_X9_tries_0 at h
    have g := Md.rf ml_X9_tries S
    obtain ⟨-, h⟩ := ck_e h
    rcases if_c h with ⟨-, h⟩ | ⟨-, h⟩
    · rcases if_c h with ⟨-, h⟩ | ⟨-, h⟩
      · obtain ⟨-, rfl⟩ := some_e h
        exact g
      · rcases if_c h with ⟨-, h⟩ | ⟨-, h⟩
        · rcases if_c h with ⟨-, h⟩ | ⟨-, h⟩
          · obtain ⟨-, rfl⟩ := some_e h
            exact g
          · exact g.trans (md_X9_tries_32 _ _ _ hself _ _ _ h)
        · exact g.trans (md_X9_tries_32 _ _ _ hself _ _ _ h)
    · exact g.trans (md_X9_tries_86 _ _ _ hself _ _ _ _ _ _ h)

abbrev ml_X9_finds : List (Nat × Option Nat × Option Nat) := [(30, some 0, some 36), (30, some 0, some 42), (30, some 0, some 43), (31, some 20, none), (31, some 21, none), (31, some 22, none), (31, some 23, none), (31, some 24, none), (32, some 1, none)]
theorem md_X9_finds_16 {r : Unit} {Z : HS} (cs : List (Nat × Nat)) (N : Nat) (K2 : Int32 → HS → Option (Unit × HS)) (hK2 : ∀ (v1 : Int32) (S : HS), K2 v1 S = some (r, Z) → Md ml_X9_finds S Z) : ∀ (n : Nat) (v1 : Int32) (v2 : Int32) (S : HS), f_X9_finds_16 cs N K2 n v1 v2 S = some (r, Z) → Md ml_X9_finds S Z := by
  intro n
  induction n with
  | zero => intro v1 v2 S h; cases h
  | succ n ih =>
    intro v1 v2 S h
    rw [f_X9_finds_16] at h
    have g := Md.rf ml_X9_finds S
    obtain ⟨-, h⟩ := ck_e h
    rcases if_c h with ⟨-, h⟩ | ⟨-, h⟩
    · obtain ⟨x3, -, h⟩ := lt_e h
      exact g.trans (hK2 _ _ h)
    · obtain ⟨r5, S6, e9, h⟩ := ob_e h
      have g := g.trans ((md_X9_does _ _ _ _ _ _ _ e9).mono (by decide))
      obtain ⟨-, h⟩ := ck_e h
      obtain ⟨-, h⟩ := ck_e h
      obtain ⟨S10, e9, h⟩ := lt_e h
      have g := g.ui e9 rfl
      obtain ⟨x12, -, h⟩ := lt_e h
      exact g.trans (ih _ _ _ h)
theorem md_X9_finds_2 {r : Unit} {Z : HS} (cs : List (Nat × Nat)) (N : Nat)  : ∀ (n : Nat) (v1 : Int32) (S : HS), f_X9_finds_2 cs N n v1 S = some (r, Z) → Md ml_X9_finds S Z := by
  intro n
  induction n with
  | zero => intro v1 S h; cases h
  | succ n ih =>
    intro v1 S h
    rw [f_X9_finds_2] at h
    have g := Md.rf ml_X9_finds S
    rcases if_c h with ⟨-, h⟩ | ⟨-, h⟩
    · obtain ⟨-, h⟩ := ck_e h
      obtain ⟨S3, e9, h⟩ := lt_e h
      have g := g.ui e9 rfl
      obtain ⟨r5, S6, e9, h⟩ := ob_e h
      have g := g.trans ((md_X9_tries _ _ _ _ _ _ _ _ _ e9).mono (by decide))
      obtain ⟨-, rfl⟩ := some_e h
      exact g
    · obtain ⟨-, h⟩ := ck_e h
      obtain ⟨-, h⟩ := ck_e h
      obtain ⟨-, h⟩ := ck_e h
      obtain ⟨S11, e9, h⟩ := lt_e h
      have g := g.ui e9 rfl
      exact g.trans (md_X9_finds_16 _ _ _ ih _ _ _ _ h)
theorem md_X9_finds (cs : List (Nat × Nat)) (N : Nat)  (S : HS) (r : Unit) (Z : HS) (h : f_X9_finds cs N  S = some (r, Z)) : Md ml_X9_finds S Z := by
  unfold f_X9_finds at h
  have g := Md.rf ml_X9_finds S
  exact g.trans (md_X9_finds_2 _ _ _ _ _ h)

abbrev ml_X9_look : List (Nat × Option Nat × Option Nat) := []
theorem md_X9_look_86 {r : Int32} {Z : HS} (cs : List (Nat × Nat)) (N : Nat) (K52 : Int32 → Int32 → Int32 → HS → Option (Int32 × HS)) (hK52 : ∀ (v1 : Int32) (v2 : Int32) (v3 : Int32) (S : HS), K52 v1 v2 v3 S = some (r, Z) → Md ml_X9_look S Z) (v1 : Int32) (v3 : Int32) (t0 : Int32) (t1 : Int32) (t2 : Int32) (S : HS) (h : f_X9_look_86 cs N K52 v1 v3 t0 t1 t2 S = some (r, Z)) : Md ml_X9_look S Z := by
  unfold f_X9_look_86 at h
  have g := Md.rf ml_X9_look S
  rcases if_c h with ⟨-, h⟩ | ⟨-, h⟩
  · obtain ⟨x6, -, h⟩ := lt_e h
    obtain ⟨x8, -, h⟩ := lt_e h
    exact g.trans (hK52 _ _ _ _ h)
  · obtain ⟨x2, -, h⟩ := lt_e h
    obtain ⟨x4, -, h⟩ := lt_e h
    exact g.trans (hK52 _ _ _ _ h)
theorem md_X9_look_52 {r : Int32} {Z : HS} (cs : List (Nat × Nat)) (N : Nat)  : ∀ (n : Nat) (v1 : Int32) (v2 : Int32) (v3 : Int32) (S : HS), f_X9_look_52 cs N n v1 v2 v3 S = some (r, Z) → Md ml_X9_look S Z := by
  intro n
  induction n with
  | zero => intro v1 v2 v3 S h; cases h
  | succ n ih =>
    intro v1 v2 v3 S h
    rw [f_X9_look_52] at h
    have g := Md.rf ml_X9_look S
    obtain ⟨-, h⟩ := ck_e h
    rcases if_c h with ⟨-, h⟩ | ⟨-, h⟩
    · obtain ⟨-, rfl⟩ := some_e h
      exact g
    · obtain ⟨-, h⟩ := ck_e h
      obtain ⟨-, h⟩ := ck_e h
      rcases if_c h with ⟨-, h⟩ | ⟨-, h⟩
      · exact g.trans (md_X9_look_86 _ _ _ ih _ _ _ _ _ _ h)
      · rcases if_c h with ⟨-, h⟩ | ⟨-, h⟩
        · exact g.trans (md_X9_look_86 _ _ _ ih _ _ _ _ _ _ h)
        · exact g.trans (md_X9_look_86 _ _ _ ih _ _ _ _ _ _ h)
theorem md_X9_look (cs : List (Nat × Nat)) (N : Nat) (a1 : Int32) (S : HS) (r : Int32) (Z : HS) (h : f_X9_look cs N a1 S = some (r, Z)) : Md ml_X9_look S Z := by
  unfold f_X9_look at h
  have g := Md.rf ml_X9_look S
  rcases if_c h with ⟨-, h⟩ | ⟨-, h⟩
  · obtain ⟨-, h⟩ := ck_e h
    obtain ⟨-, rfl⟩ := some_e h
    exact g
  · rcases if_c h with ⟨-, h⟩ | ⟨-, h⟩
    · obtain ⟨-, h⟩ := ck_e h
      obtain ⟨-, rfl⟩ := some_e h
      exact g
    · rcases if_c h with ⟨-, h⟩ | ⟨-, h⟩
      · exact g.trans (md_X9_look_52 _ _ _ _ _ _ _ h)
      · rcases if_c h with ⟨-, h⟩ | ⟨-, h⟩
        · exact g.trans (md_X9_look_52 _ _ _ _ _ _ _ h)
        · rcases if_c h with ⟨-, h⟩ | ⟨-, h⟩
          · exact g.trans (md_X9_look_52 _ _ _ _ _ _ _ h)
          · rcases if_c h with ⟨-, h⟩ | ⟨-, h⟩
            · obtain ⟨-, h⟩ := ck_e h
              obtain ⟨-, rfl⟩ := some_e h
              exact g
            · obtain ⟨r10, S11, e9, h⟩ := ob_e h
              have g := g.trans ((md_X9_isIn _ _ _ _ _ _ _ _ e9).mono (by decide))
              rcases if_c h with ⟨-, h⟩ | ⟨-, h⟩
              · obtain ⟨r14, S15, e9, h⟩ := ob_e h
                have g := g.trans ((md_X9_isIn _ _ _ _ _ _ _ _ e9).mono (by decide))
                rcases if_c h with ⟨-, h⟩ | ⟨-, h⟩
                · obtain ⟨-, rfl⟩ := some_e h
                  exact g
                · obtain ⟨-, h⟩ := ck_e h
                  obtain ⟨-, h⟩ := ck_e h
                  obtain ⟨-, h⟩ := ck_e h
                  obtain ⟨-, rfl⟩ := some_e h
                  exact g
              · obtain ⟨-, h⟩ := ck_e h
                obtain ⟨-, h⟩ := ck_e h
                obtain ⟨-, h⟩ := ck_e h
                obtain ⟨-, rfl⟩ := some_e h
                exact g

abbrev ml_X9_of : List (Nat × Option Nat × Option Nat) := []
theorem md_X9_of (cs : List (Nat × Nat)) (N : Nat) (a1 : Int32) (a2 : Int32) (S : HS) (r : Int32) (Z : HS) (h : f_X9_of cs N a1 a2 S = some (r, Z)) : Md ml_X9_of S Z := by
  unfold f_X9_of at h
  have g := Md.rf ml_X9_of S
  obtain ⟨-, h⟩ := ck_e h
  obtain ⟨r2, S3, e9, h⟩ := ob_e h
  have g := g.trans ((md_X9_isIn _ _ _ _ _ _ _ _ e9).mono (by decide))
  rcases if_c h with ⟨-, h⟩ | ⟨-, h⟩
  · obtain ⟨-, rfl⟩ := some_e h
    exact g
  · rcases if_c h with ⟨-, h⟩ | ⟨-, h⟩
    · obtain ⟨-, h⟩ := ck_e h
      obtain ⟨-, h⟩ := ck_e h
      obtain ⟨-, rfl⟩ := some_e h
      exact g
    · rcases if_c h with ⟨-, h⟩ | ⟨-, h⟩
      · obtain ⟨-, h⟩ := ck_e h
        obtain ⟨-, h⟩ := ck_e h
        obtain ⟨-, rfl⟩ := some_e h
        exact g
      · rcases if_c h with ⟨-, h⟩ | ⟨-, h⟩
        · obtain ⟨-, h⟩ := ck_e h
          obtain ⟨-, h⟩ := ck_e h
          obtain ⟨-, rfl⟩ := some_e h
          exact g
        · rcases if_c h with ⟨-, h⟩ | ⟨-, h⟩
          · obtain ⟨-, h⟩ := ck_e h
            obtain ⟨-, h⟩ := ck_e h
            obtain ⟨-, rfl⟩ := some_e h
            exact g
          · rcases if_c h with ⟨-, h⟩ | ⟨-, h⟩
            · obtain ⟨-, h⟩ := ck_e h
              obtain ⟨-, h⟩ := ck_e h
              obtain ⟨-, rfl⟩ := some_e h
              exact g
            · rcases if_c h with ⟨-, h⟩ | ⟨-, h⟩
              · obtain ⟨-, h⟩ := ck_e h
                obtain ⟨-, h⟩ := ck_e h
                obtain ⟨-, rfl⟩ := some_e h
                exact g
              · rcases if_c h with ⟨-, h⟩ | ⟨-, h⟩
                · obtain ⟨-, h⟩ := ck_e h
                  obtain ⟨-, h⟩ := ck_e h
                  obtain ⟨-, rfl⟩ := some_e h
                  exact g
                · rcases if_c h with ⟨-, h⟩ | ⟨-, h⟩
                  · obtain ⟨-, h⟩ := ck_e h
                    obtain ⟨-, h⟩ := ck_e h
                    obtain ⟨-, rfl⟩ := some_e h
                    exact g
                  · rcases if_c h with ⟨-, h⟩ | ⟨-, h⟩
                    · obtain ⟨-, h⟩ := ck_e h
                      obtain ⟨-, h⟩ := ck_e h
                      obtain ⟨-, rfl⟩ := some_e h
                      exact g
                    · rcases if_c h with ⟨-, h⟩ | ⟨-, h⟩
                      · obtain ⟨-, h⟩ := ck_e h
                        obtain ⟨-, h⟩ := ck_e h
                        obtain ⟨-, rfl⟩ := some_e h
                        exact g
                      · obtain ⟨-, rfl⟩ := some_e h
                        exact g

abbrev ml_X9_setOf : List (Nat × Option Nat × Option Nat) := []
theorem md_X9_setOf_4 {r : Int32} {Z : HS} (cs : List (Nat × Nat)) (N : Nat)  : ∀ (n : Nat) (v1 : Int32) (v2 : Int32) (v3 : Int32) (S : HS), f_X9_setOf_4 cs N n v1 v2 v3 S = some (r, Z) → Md ml_X9_setOf S Z := by
  intro n
  induction n with
  | zero => intro v1 v2 v3 S h; cases h
  | succ n ih =>
    intro v1 v2 v3 S h
    rw [f_X9_setOf_4] at h
    have g := Md.rf ml_X9_setOf S
    obtain ⟨-, h⟩ := ck_e h
    rcases if_c h with ⟨-, h⟩ | ⟨-, h⟩
    · obtain ⟨-, rfl⟩ := some_e h
      exact g
    · obtain ⟨-, h⟩ := ck_e h
      obtain ⟨-, h⟩ := ck_e h
      rcases if_c h with ⟨-, h⟩ | ⟨-, h⟩
      · obtain ⟨x10, -, h⟩ := lt_e h
        obtain ⟨x12, -, h⟩ := lt_e h
        exact g.trans (ih _ _ _ _ h)
      · obtain ⟨x6, -, h⟩ := lt_e h
        obtain ⟨x8, -, h⟩ := lt_e h
        exact g.trans (ih _ _ _ _ h)
theorem md_X9_setOf (cs : List (Nat × Nat)) (N : Nat) (a1 : Int32) (S : HS) (r : Int32) (Z : HS) (h : f_X9_setOf cs N a1 S = some (r, Z)) : Md ml_X9_setOf S Z := by
  unfold f_X9_setOf at h
  have g := Md.rf ml_X9_setOf S
  exact g.trans (md_X9_setOf_4 _ _ _ _ _ _ _ h)

abbrev ml_X9_best : List (Nat × Option Nat × Option Nat) := [(30, some 0, some 36), (30, some 0, some 42), (30, some 0, some 43), (31, some 20, none), (31, some 21, none), (31, some 22, none), (31, some 23, none), (31, some 24, none), (32, some 1, none)]
theorem md_X9_best (cs : List (Nat × Nat)) (N : Nat) (a1 : Int32) (S : HS) (r : Int32) (Z : HS) (h : f_X9_best cs N a1 S = some (r, Z)) : Md ml_X9_best S Z := by
  unfold f_X9_best at h
  have g := Md.rf ml_X9_best S
  obtain ⟨-, h⟩ := ck_e h
  obtain ⟨r2, S3, e9, h⟩ := ob_e h
  have g := g.trans ((md_X9_finds _ _ _ _ _ e9).mono (by decide))
  rcases if_c h with ⟨-, h⟩ | ⟨-, h⟩
  · obtain ⟨-, rfl⟩ := some_e h
    exact g
  · rcases if_c h with ⟨-, h⟩ | ⟨-, h⟩
    · obtain ⟨-, rfl⟩ := some_e h
      exact g
    · obtain ⟨r7, S8, e9, h⟩ := ob_e h
      have g := g.trans ((md_X9_isIn _ _ _ _ _ _ _ _ e9).mono (by decide))
      rcases if_c h with ⟨-, h⟩ | ⟨-, h⟩
      · obtain ⟨r11, S12, e9, h⟩ := ob_e h
        have g := g.trans ((md_X9_isIn _ _ _ _ _ _ _ _ e9).mono (by decide))
        rcases if_c h with ⟨-, h⟩ | ⟨-, h⟩
        · obtain ⟨-, rfl⟩ := some_e h
          exact g
        · obtain ⟨-, h⟩ := ck_e h
          obtain ⟨-, h⟩ := ck_e h
          rcases if_c h with ⟨-, h⟩ | ⟨-, h⟩
          · obtain ⟨-, rfl⟩ := some_e h
            exact g
          · obtain ⟨-, h⟩ := ck_e h
            obtain ⟨-, h⟩ := ck_e h
            obtain ⟨r20, S21, e9, h⟩ := ob_e h
            have g := g.trans ((md_X9_setOf _ _ _ _ _ _ e9).mono (by decide))
            obtain ⟨r23, S24, e9, h⟩ := ob_e h
            have g := g.trans ((md_X9_does _ _ _ _ _ _ _ e9).mono (by decide))
            rcases if_c h with ⟨-, h⟩ | ⟨-, h⟩
            · obtain ⟨-, rfl⟩ := some_e h
              exact g
            · obtain ⟨-, h⟩ := ck_e h
              obtain ⟨-, h⟩ := ck_e h
              obtain ⟨-, rfl⟩ := some_e h
              exact g
      · obtain ⟨-, h⟩ := ck_e h
        obtain ⟨-, h⟩ := ck_e h
        obtain ⟨-, rfl⟩ := some_e h
        exact g

abbrev ml_X9_works : List (Nat × Option Nat × Option Nat) := [(30, some 0, some 2), (30, some 0, some 36), (31, some 1, none), (31, some 2, none), (31, some 13, none), (31, some 14, none), (31, some 15, none), (31, some 20, none)]
theorem md_X9_works_67 {r : Unit} {Z : HS} (cs : List (Nat × Nat)) (N : Nat) (K26 : Int32 → Int32 → Int32 → HS → Option (Unit × HS)) (hK26 : ∀ (v1 : Int32) (v2 : Int32) (v3 : Int32) (S : HS), K26 v1 v2 v3 S = some (r, Z) → Md ml_X9_works S Z) (v1 : Int32) (v2 : Int32) (v3 : Int32) (v4 : Int32) (v5 : Int32) (t0 : Int32) (S : HS) (h : f_X9_works_67 cs N K26 v1 v2 v3 v4 v5 t0 S = some (r, Z)) : Md ml_X9_works S Z := by
  unfold f_X9_works_67 at h
  have g := Md.rf ml_X9_works S
  obtain ⟨-, h⟩ := ck_e h
  obtain ⟨-, h⟩ := ck_e h
  obtain ⟨-, h⟩ := ck_e h
  obtain ⟨-, h⟩ := ck_e h
  obtain ⟨-, h⟩ := ck_e h
  obtain ⟨S6, e9, h⟩ := lt_e h
  have g := g.ui e9 rfl
  obtain ⟨-, h⟩ := ck_e h
  obtain ⟨-, h⟩ := ck_e h
  obtain ⟨S10, e9, h⟩ := lt_e h
  have g := g.ui e9 rfl
  obtain ⟨x12, -, h⟩ := lt_e h
  rcases if_c h with ⟨-, h⟩ | ⟨-, h⟩
  · obtain ⟨-, h⟩ := ck_e h
    obtain ⟨-, h⟩ := ck_e h
    obtain ⟨S17, e9, h⟩ := lt_e h
    have g := g.ui e9 rfl
    obtain ⟨-, h⟩ := ck_e h
    obtain ⟨-, h⟩ := ck_e h
    obtain ⟨-, h⟩ := ck_e h
    obtain ⟨-, h⟩ := ck_e h
    obtain ⟨-, h⟩ := ck_e h
    obtain ⟨S24, e9, h⟩ := lt_e h
    have g := g.ui e9 rfl
    obtain ⟨-, h⟩ := ck_e h
    obtain ⟨-, h⟩ := ck_e h
    obtain ⟨-, h⟩ := ck_e h
    obtain ⟨-, h⟩ := ck_e h
    obtain ⟨S30, e9, h⟩ := lt_e h
    have g := g.ui e9 rfl
    obtain ⟨-, h⟩ := ck_e h
    obtain ⟨-, h⟩ := ck_e h
    obtain ⟨S34, e9, h⟩ := lt_e h
    have g := g.ui e9 rfl
    obtain ⟨x36, -, h⟩ := lt_e h
    exact g.trans (hK26 _ _ _ _ h)
  · obtain ⟨x38, -, h⟩ := lt_e h
    exact g.trans (hK26 _ _ _ _ h)
theorem md_X9_works_26 {r : Unit} {Z : HS} (cs : List (Nat × Nat)) (N : Nat)  : ∀ (n : Nat) (v1 : Int32) (v2 : Int32) (v3 : Int32) (S : HS), f_X9_works_26 cs N n v1 v2 v3 S = some (r, Z) → Md ml_X9_works S Z := by
  intro n
  induction n with
  | zero => intro v1 v2 v3 S h; cases h
  | succ n ih =>
    intro v1 v2 v3 S h
    rw [f_X9_works_26] at h
    have g := Md.rf ml_X9_works S
    obtain ⟨-, h⟩ := ck_e h
    rcases if_c h with ⟨-, h⟩ | ⟨-, h⟩
    · obtain ⟨-, rfl⟩ := some_e h
      exact g
    · rcases if_c h with ⟨-, h⟩ | ⟨-, h⟩
      · obtain ⟨-, rfl⟩ := some_e h
        exact g
      · obtain ⟨-, h⟩ := ck_e h
        obtain ⟨-, h⟩ := ck_e h
        obtain ⟨x6, -, h⟩ := lt_e h
        obtain ⟨r8, S9, e9, h⟩ := ob_e h
        have g := g.trans ((md_X9_left _ _ _ _ _ _ _ e9).mono (by decide))
        rcases if_c h with ⟨-, h⟩ | ⟨-, h⟩
        · exact g.trans (md_X9_works_67 _ _ _ ih _ _ _ _ _ _ _ h)
        · exact g.trans (md_X9_works_67 _ _ _ ih _ _ _ _ _ _ _ h)
theorem md_X9_works (cs : List (Nat × Nat)) (N : Nat) (a1 : Int32) (S : HS) (r : Unit) (Z : HS) (h : f_X9_works cs N a1 S = some (r, Z)) : Md ml_X9_works S Z := by
  unfold f_X9_works at h
  have g := Md.rf ml_X9_works S
  obtain ⟨-, h⟩ := ck_e h
  obtain ⟨r2, S3, e9, h⟩ := ob_e h
  have g := g.trans ((md_X9_setOf _ _ _ _ _ _ e9).mono (by decide))
  obtain ⟨r5, S6, e9, h⟩ := ob_e h
  have g := g.trans ((md_X9_sorts _ _ _ _ _ _ e9).mono (by decide))
  obtain ⟨-, h⟩ := ck_e h
  obtain ⟨-, h⟩ := ck_e h
  obtain ⟨x10, -, h⟩ := lt_e h
  exact g.trans (md_X9_works_26 _ _ _ _ _ _ _ h)

abbrev ml_X9_work : List (Nat × Option Nat × Option Nat) := [(30, some 0, some 0), (30, some 0, some 2), (30, some 0, some 36), (30, some 0, some 42), (30, some 0, some 43), (31, some 1, none), (31, some 2, none), (31, some 13, none), (31, some 14, none), (31, some 15, none), (31, some 20, none), (31, some 21, none), (31, some 22, none), (31, some 23, none), (31, some 24, none), (32, some 1, none)]
theorem md_X9_work_45 {r : Int32} {Z : HS} (cs : List (Nat × Nat)) (N : Nat)  : ∀ (n : Nat) (v1 : Int32) (S : HS), f_X9_work_45 cs N n v1 S = some (r, Z) → Md ml_X9_work S Z := by
  intro n
  induction n with
  | zero => intro v1 S h; cases h
  | succ n ih =>
    intro v1 S h
    rw [f_X9_work_45] at h
    have g := Md.rf ml_X9_work S
    obtain ⟨-, h⟩ := ck_e h
    rcases if_c h with ⟨-, h⟩ | ⟨-, h⟩
    · obtain ⟨-, rfl⟩ := some_e h
      exact g
    · obtain ⟨r3, S4, e9, h⟩ := ob_e h
      have g := g.trans ((md_X9_isOpen _ _ _ _ _ _ e9).mono (by decide))
      rcases if_c h with ⟨-, h⟩ | ⟨-, h⟩
      · obtain ⟨x7, -, h⟩ := lt_e h
        exact g.trans (ih _ _ h)
      · obtain ⟨-, h⟩ := ck_e h
        obtain ⟨-, h⟩ := ck_e h
        rcases if_c h with ⟨-, h⟩ | ⟨-, h⟩
        · obtain ⟨x12, -, h⟩ := lt_e h
          exact g.trans (ih _ _ h)
        · obtain ⟨-, h⟩ := ck_e h
          obtain ⟨-, h⟩ := ck_e h
          obtain ⟨S16, e9, h⟩ := lt_e h
          have g := g.ui e9 rfl
          obtain ⟨x18, -, h⟩ := lt_e h
          exact g.trans (ih _ _ h)
theorem md_X9_work_17 {r : Int32} {Z : HS} (cs : List (Nat × Nat)) (N : Nat)  : ∀ (n : Nat) (v1 : Int32) (S : HS), f_X9_work_17 cs N n v1 S = some (r, Z) → Md ml_X9_work S Z := by
  intro n
  induction n with
  | zero => intro v1 S h; cases h
  | succ n ih =>
    intro v1 S h
    rw [f_X9_work_17] at h
    have g := Md.rf ml_X9_work S
    rcases if_c h with ⟨-, h⟩ | ⟨-, h⟩
    · obtain ⟨-, h⟩ := ck_e h
      obtain ⟨S3, e9, h⟩ := lt_e h
      have g := g.ui e9 rfl
      exact g.trans (md_X9_work_45 _ _ _ _ _ h)
    · obtain ⟨-, h⟩ := ck_e h
      obtain ⟨r6, S7, e9, h⟩ := ob_e h
      have g := g.trans ((md_X9_works _ _ _ _ _ _ e9).mono (by decide))
      obtain ⟨x9, -, h⟩ := lt_e h
      exact g.trans (ih _ _ h)
theorem md_X9_work (cs : List (Nat × Nat)) (N : Nat)  (S : HS) (r : Int32) (Z : HS) (h : f_X9_work cs N  S = some (r, Z)) : Md ml_X9_work S Z := by
  unfold f_X9_work at h
  have g := Md.rf ml_X9_work S
  obtain ⟨-, h⟩ := ck_e h
  rcases if_c h with ⟨-, h⟩ | ⟨-, h⟩
  · obtain ⟨-, rfl⟩ := some_e h
    exact g
  · obtain ⟨r3, S4, e9, h⟩ := ob_e h
    have g := g.trans ((md_X9_finds _ _ _ _ _ e9).mono (by decide))
    exact g.trans (md_X9_work_17 _ _ _ _ _ h)

abbrev ml_X0_lay : List (Nat × Option Nat × Option Nat) := [(14, some 0, some 0), (14, some 0, some 1)]
theorem md_X0_lay_94 {r : Int32} {Z : HS} (cs : List (Nat × Nat)) (N : Nat) (K19 : Nat → Nat → Nat → Int32 → Int32 → Int32 → HS → Option (Int32 × HS)) (hK19 : ∀ (k1 : Nat) (k2 : Nat) (k3 : Nat) (v4 : Int32) (v5 : Int32) (v6 : Int32) (S : HS), K19 k1 k2 k3 v4 v5 v6 S = some (r, Z) → Md ml_X0_lay S Z) (k1 : Nat) (k2 : Nat) (k3 : Nat) (v4 : Int32) (v5 : Int32) (v6 : Int32) (v7 : Int32) (S : HS) (h : f_X0_lay_94 cs N K19 k1 k2 k3 v4 v5 v6 v7 S = some (r, Z)) : Md ml_X0_lay S Z := by
  unfold f_X0_lay_94 at h
  have g := Md.rf ml_X0_lay S
  rcases if_c h with ⟨-, h⟩ | ⟨-, h⟩
  · obtain ⟨x2, -, h⟩ := lt_e h
    obtain ⟨x4, -, h⟩ := lt_e h
    exact g.trans (hK19 _ _ _ _ _ _ _ h)
  · obtain ⟨-, h⟩ := ck_e h
    obtain ⟨S7, e9, h⟩ := lt_e h
    have g := g.ui e9 rfl
    obtain ⟨S9, e9, h⟩ := lt_e h
    have g := g.ui e9 rfl
    obtain ⟨-, rfl⟩ := some_e h
    exact g
theorem md_X0_lay_68 {r : Int32} {Z : HS} (cs : List (Nat × Nat)) (N : Nat) (K19 : Nat → Nat → Nat → Int32 → Int32 → Int32 → HS → Option (Int32 × HS)) (hK19 : ∀ (k1 : Nat) (k2 : Nat) (k3 : Nat) (v4 : Int32) (v5 : Int32) (v6 : Int32) (S : HS), K19 k1 k2 k3 v4 v5 v6 S = some (r, Z) → Md ml_X0_lay S Z) (k1 : Nat) (k2 : Nat) (k3 : Nat) (v4 : Int32) (v6 : Int32) (v7 : Int32) (t0 : Int32) (S : HS) (h : f_X0_lay_68 cs N K19 k1 k2 k3 v4 v6 v7 t0 S = some (r, Z)) : Md ml_X0_lay S Z := by
  unfold f_X0_lay_68 at h
  have g := Md.rf ml_X0_lay S
  rcases if_c h with ⟨-, h⟩ | ⟨-, h⟩
  · exact g.trans (md_X0_lay_94 _ _ _ hK19 _ _ _ _ _ _ _ _ h)
  · obtain ⟨-, h⟩ := ck_e h
    obtain ⟨-, h⟩ := ck_e h
    obtain ⟨-, h⟩ := ck_e h
    obtain ⟨r5, S6, e9, h⟩ := ob_e h
    have g := g.trans ((md_X5_allow _ _ _ _ _ _ _ _ _ e9).mono (by decide))
    rcases if_c h with ⟨-, h⟩ | ⟨-, h⟩
    · obtain ⟨-, rfl⟩ := some_e h
      exact g
    · exact g.trans (md_X0_lay_94 _ _ _ hK19 _ _ _ _ _ _ _ _ h)
theorem md_X0_lay_51 {r : Int32} {Z : HS} (cs : List (Nat × Nat)) (N : Nat) (K19 : Nat → Nat → Nat → Int32 → Int32 → Int32 → HS → Option (Int32 × HS)) (hK19 : ∀ (k1 : Nat) (k2 : Nat) (k3 : Nat) (v4 : Int32) (v5 : Int32) (v6 : Int32) (S : HS), K19 k1 k2 k3 v4 v5 v6 S = some (r, Z) → Md ml_X0_lay S Z) (k1 : Nat) (k2 : Nat) (k3 : Nat) (v4 : Int32) (v5 : Int32) (v6 : Int32) (t0 : Int32) (S : HS) (h : f_X0_lay_51 cs N K19 k1 k2 k3 v4 v5 v6 t0 S = some (r, Z)) : Md ml_X0_lay S Z := by
  unfold f_X0_lay_51 at h
  have g := Md.rf ml_X0_lay S
  rcases if_c h with ⟨-, h⟩ | ⟨-, h⟩
  · rcases if_c h with ⟨-, h⟩ | ⟨-, h⟩
    · exact g.trans (md_X0_lay_68 _ _ _ hK19 _ _ _ _ _ _ _ _ h)
    · exact g.trans (md_X0_lay_68 _ _ _ hK19 _ _ _ _ _ _ _ _ h)
  · exact g.trans (md_X0_lay_68 _ _ _ hK19 _ _ _ _ _ _ _ _ h)
theorem md_X0_lay_19 {r : Int32} {Z : HS} (cs : List (Nat × Nat)) (N : Nat)  : ∀ (n : Nat) (k1 : Nat) (k2 : Nat) (k3 : Nat) (v4 : Int32) (v5 : Int32) (v6 : Int32) (S : HS), f_X0_lay_19 cs N n k1 k2 k3 v4 v5 v6 S = some (r, Z) → Md ml_X0_lay S Z := by
  intro n
  induction n with
  | zero => intro k1 k2 k3 v4 v5 v6 S h; cases h
  | succ n ih =>
    intro k1 k2 k3 v4 v5 v6 S h
    rw [f_X0_lay_19] at h
    have g := Md.rf ml_X0_lay S
    obtain ⟨-, h⟩ := ck_e h
    rcases if_c h with ⟨-, h⟩ | ⟨-, h⟩
    · obtain ⟨-, rfl⟩ := some_e h
      exact g
    · obtain ⟨-, h⟩ := ck_e h
      rcases if_c h with ⟨-, h⟩ | ⟨-, h⟩
      · exact g.trans (md_X0_lay_51 _ _ _ ih _ _ _ _ _ _ _ _ h)
      · obtain ⟨-, h⟩ := ck_e h
        obtain ⟨-, h⟩ := ck_e h
        obtain ⟨-, h⟩ := ck_e h
        exact g.trans (md_X0_lay_51 _ _ _ ih _ _ _ _ _ _ _ _ h)
theorem md_X0_lay (cs : List (Nat × Nat)) (N : Nat) (a1 : Nat) (a2 : Nat) (a3 : Nat) (S : HS) (r : Int32) (Z : HS) (h : f_X0_lay cs N a1 a2 a3 S = some (r, Z)) : Md ml_X0_lay S Z := by
  unfold f_X0_lay at h
  have g := Md.rf ml_X0_lay S
  obtain ⟨-, h⟩ := ck_e h
  obtain ⟨-, h⟩ := ck_e h
  obtain ⟨r3, S4, e9, h⟩ := ob_e h
  have g := g.trans ((md_X6_hoursLeftFor _ _ _ _ _ _ _ e9).mono (by decide))
  obtain ⟨-, h⟩ := ck_e h
  obtain ⟨x7, -, h⟩ := lt_e h
  exact g.trans (md_X0_lay_19 _ _ _ _ _ _ _ _ _ _ h)

abbrev ml_X1_tell : List (Nat × Option Nat × Option Nat) := [(21, none, none), (23, none, none), (24, none, none)]
theorem md_X1_tell (cs : List (Nat × Nat)) (N : Nat) (a1 : Int32) (a2 : Nat) (S : HS) (r : Unit) (Z : HS) (h : f_X1_tell cs N a1 a2 S = some (r, Z)) : Md ml_X1_tell S Z := by
  unfold f_X1_tell at h
  have g := Md.rf ml_X1_tell S
  rcases if_c h with ⟨-, h⟩ | ⟨-, h⟩
  · obtain ⟨-, h⟩ := ck_e h
    obtain ⟨-, h⟩ := ck_e h
    obtain ⟨-, h⟩ := ck_e h
    obtain ⟨-, h⟩ := ck_e h
    obtain ⟨-, h⟩ := ck_e h
    obtain ⟨r7, S8, e9, h⟩ := ob_e h
    have g := g.trans ((md_X5_give _ _ _ _ _ _ _ _ e9).mono (by decide))
    obtain ⟨-, rfl⟩ := some_e h
    exact g
  · rcases if_c h with ⟨-, h⟩ | ⟨-, h⟩
    · obtain ⟨-, h⟩ := ck_e h
      obtain ⟨-, h⟩ := ck_e h
      obtain ⟨-, h⟩ := ck_e h
      obtain ⟨-, h⟩ := ck_e h
      obtain ⟨-, h⟩ := ck_e h
      obtain ⟨-, h⟩ := ck_e h
      obtain ⟨r17, S18, e9, h⟩ := ob_e h
      have g := g.trans ((md_X5_share _ _ _ _ _ _ _ _ _ e9).mono (by decide))
      obtain ⟨-, rfl⟩ := some_e h
      exact g
    · rcases if_c h with ⟨-, h⟩ | ⟨-, h⟩
      · obtain ⟨-, h⟩ := ck_e h
        obtain ⟨-, h⟩ := ck_e h
        obtain ⟨-, h⟩ := ck_e h
        obtain ⟨-, h⟩ := ck_e h
        obtain ⟨-, h⟩ := ck_e h
        obtain ⟨-, h⟩ := ck_e h
        obtain ⟨r27, S28, e9, h⟩ := ob_e h
        have g := g.trans ((md_X5_shut _ _ _ _ _ _ _ _ _ e9).mono (by decide))
        obtain ⟨-, rfl⟩ := some_e h
        exact g
      · obtain ⟨-, h⟩ := ck_e h
        obtain ⟨-, h⟩ := ck_e h
        obtain ⟨-, h⟩ := ck_e h
        obtain ⟨-, h⟩ := ck_e h
        obtain ⟨r34, S35, e9, h⟩ := ob_e h
        have g := g.trans ((md_X5_give _ _ _ _ _ _ _ _ e9).mono (by decide))
        obtain ⟨-, rfl⟩ := some_e h
        exact g

abbrev ml_X4_rankOf : List (Nat × Option Nat × Option Nat) := []
theorem md_X4_rankOf (cs : List (Nat × Nat)) (N : Nat) (a1 : Nat) (a2 : Int32) (S : HS) (r : Int64) (Z : HS) (h : f_X4_rankOf cs N a1 a2 S = some (r, Z)) : Md ml_X4_rankOf S Z := by
  unfold f_X4_rankOf at h
  have g := Md.rf ml_X4_rankOf S
  obtain ⟨-, h⟩ := ck_e h
  obtain ⟨r2, S3, e9, h⟩ := ob_e h
  have g := g.trans ((md_X6_hoursLeftFor _ _ _ _ _ _ _ e9).mono (by decide))
  obtain ⟨-, h⟩ := ck_e h
  obtain ⟨-, rfl⟩ := some_e h
  exact g

abbrev ml_X4_tellOrder : List (Nat × Option Nat × Option Nat) := [(12, some 0, some 0), (12, some 0, some 1), (13, some 0, none), (13, some 1, none), (13, some 2, none), (14, some 0, some 0), (14, some 0, some 1)]
theorem md_X4_tellOrder_33 {r : Unit} {Z : HS} (cs : List (Nat × Nat)) (N : Nat)  (k1 : Nat) (k2 : Nat) (k3 : Nat) (v5 : Int32) (t0 : Int32) (S : HS) (h : f_X4_tellOrder_33 cs N k1 k2 k3 v5 t0 S = some (r, Z)) : Md ml_X4_tellOrder S Z := by
  unfold f_X4_tellOrder_33 at h
  have g := Md.rf ml_X4_tellOrder S
  obtain ⟨-, h⟩ := ck_e h
  obtain ⟨-, h⟩ := ck_e h
  obtain ⟨r3, S4, e9, h⟩ := ob_e h
  have g := g.trans ((md_X0_lay _ _ _ _ _ _ _ _ e9).mono (by decide))
  rcases if_c h with ⟨-, h⟩ | ⟨-, h⟩
  · obtain ⟨-, rfl⟩ := some_e h
    exact g
  · obtain ⟨-, h⟩ := ck_e h
    obtain ⟨S8, e9, h⟩ := lt_e h
    have g := g.ui e9 rfl
    obtain ⟨S10, e9, h⟩ := lt_e h
    have g := g.ui e9 rfl
    obtain ⟨-, h⟩ := ck_e h
    obtain ⟨-, h⟩ := ck_e h
    obtain ⟨-, h⟩ := ck_e h
    obtain ⟨S15, e9, h⟩ := lt_e h
    have g := g.ui e9 rfl
    obtain ⟨-, h⟩ := ck_e h
    obtain ⟨-, h⟩ := ck_e h
    obtain ⟨S19, e9, h⟩ := lt_e h
    have g := g.ui e9 rfl
    obtain ⟨r21, S22, e9, h⟩ := ob_e h
    have g := g.trans ((md_J9_min_7cf53 _ _ _ _ _ _ _ e9).mono (by decide))
    obtain ⟨-, h⟩ := ck_e h
    obtain ⟨-, h⟩ := ck_e h
    obtain ⟨S26, e9, h⟩ := lt_e h
    have g := g.ui e9 rfl
    obtain ⟨-, rfl⟩ := some_e h
    exact g
theorem md_X4_tellOrder (cs : List (Nat × Nat)) (N : Nat) (a1 : Nat) (a2 : Nat) (a3 : Nat) (a4 : Int32) (S : HS) (r : Unit) (Z : HS) (h : f_X4_tellOrder cs N a1 a2 a3 a4 S = some (r, Z)) : Md ml_X4_tellOrder S Z := by
  unfold f_X4_tellOrder at h
  have g := Md.rf ml_X4_tellOrder S
  obtain ⟨-, h⟩ := ck_e h
  obtain ⟨-, h⟩ := ck_e h
  obtain ⟨r3, S4, e9, h⟩ := ob_e h
  have g := g.trans ((md_X6_hoursLeftFor _ _ _ _ _ _ _ e9).mono (by decide))
  obtain ⟨-, h⟩ := ck_e h
  obtain ⟨-, h⟩ := ck_e h
  rcases if_c h with ⟨-, h⟩ | ⟨-, h⟩
  · exact g.trans (md_X4_tellOrder_33 _ _ _ _ _ _ _ _ h)
  · exact g.trans (md_X4_tellOrder_33 _ _ _ _ _ _ _ _ h)

abbrev ml_X5_forget : List (Nat × Option Nat × Option Nat) := [(21, none, none), (23, none, none), (24, none, none)]
theorem md_X5_forget_2 {r : Unit} {Z : HS} (cs : List (Nat × Nat)) (N : Nat)  : ∀ (n : Nat) (k0 : Nat) (v1 : Int32) (S : HS), f_X5_forget_2 cs N n k0 v1 S = some (r, Z) → Md ml_X5_forget S Z := by
  intro n
  induction n with
  | zero => intro k0 v1 S h; cases h
  | succ n ih =>
    intro k0 v1 S h
    rw [f_X5_forget_2] at h
    have g := Md.rf ml_X5_forget S
    rcases if_c h with ⟨-, h⟩ | ⟨-, h⟩
    · obtain ⟨-, rfl⟩ := some_e h
      exact g
    · obtain ⟨-, h⟩ := ck_e h
      obtain ⟨r3, S4, e9, h⟩ := ob_e h
      have g := g.trans ((md_X5_give _ _ _ _ _ _ _ _ e9).mono (by decide))
      obtain ⟨-, h⟩ := ck_e h
      obtain ⟨-, h⟩ := ck_e h
      obtain ⟨S8, e9, h⟩ := lt_e h
      have g := g.ul e9 rfl
      obtain ⟨x10, -, h⟩ := lt_e h
      exact g.trans (ih _ _ _ h)
theorem md_X5_forget (cs : List (Nat × Nat)) (N : Nat) (k : Nat) (S : HS) (r : Unit) (Z : HS) (h : f_X5_forget cs N k S = some (r, Z)) : Md ml_X5_forget S Z := by
  unfold f_X5_forget at h
  have g := Md.rf ml_X5_forget S
  exact g.trans (md_X5_forget_2 _ _ _ _ _ _ h)

abbrev ml_X7_skipLetters : List (Nat × Option Nat × Option Nat) := [(9, some 0, some 5)]
theorem md_X7_skipLetters_0 {r : Unit} {Z : HS} (cs : List (Nat × Nat)) (N : Nat)  : ∀ (n : Nat)  (S : HS), f_X7_skipLetters_0 cs N n  S = some (r, Z) → Md ml_X7_skipLetters S Z := by
  intro n
  induction n with
  | zero => intro  S h; cases h
  | succ n ih =>
    intro  S h
    rw [f_X7_skipLetters_0] at h
    have g := Md.rf ml_X7_skipLetters S
    obtain ⟨-, h⟩ := ck_e h
    rcases if_c h with ⟨-, h⟩ | ⟨-, h⟩
    · obtain ⟨-, rfl⟩ := some_e h
      exact g
    · obtain ⟨-, h⟩ := ck_e h
      obtain ⟨-, h⟩ := ck_e h
      obtain ⟨r5, S6, e9, h⟩ := ob_e h
      have g := g.trans ((md_X7_isLetter _ _ _ _ _ _ e9).mono (by decide))
      rcases if_c h with ⟨-, h⟩ | ⟨-, h⟩
      · obtain ⟨-, rfl⟩ := some_e h
        exact g
      · obtain ⟨S9, e9, h⟩ := lt_e h
        have g := g.ui e9 rfl
        exact g.trans (ih _ h)
theorem md_X7_skipLetters (cs : List (Nat × Nat)) (N : Nat)  (S : HS) (r : Unit) (Z : HS) (h : f_X7_skipLetters cs N  S = some (r, Z)) : Md ml_X7_skipLetters S Z := by
  unfold f_X7_skipLetters at h
  have g := Md.rf ml_X7_skipLetters S
  exact g.trans (md_X7_skipLetters_0 _ _ _ _ h)

abbrev ml_X7_readNumber : List (Nat × Option Nat × Option Nat) := [(9, some 0, some 1), (9, some 0, some 3), (9, some 0, some 5)]
theorem md_X7_readNumber_68 {r : Unit} {Z : HS} (cs : List (Nat × Nat)) (N : Nat)   (S : HS) (h : f_X7_readNumber_68 cs N  S = some (r, Z)) : Md ml_X7_readNumber S Z := by
  unfold f_X7_readNumber_68 at h
  have g := Md.rf ml_X7_readNumber S
  obtain ⟨-, h⟩ := ck_e h
  rcases if_c h with ⟨-, h⟩ | ⟨-, h⟩
  · obtain ⟨S3, e9, h⟩ := lt_e h
    have g := g.ui e9 rfl
    obtain ⟨-, rfl⟩ := some_e h
    exact g
  · obtain ⟨S5, e9, h⟩ := lt_e h
    have g := g.ui e9 rfl
    obtain ⟨-, rfl⟩ := some_e h
    exact g
theorem md_X7_readNumber_5 {r : Unit} {Z : HS} (cs : List (Nat × Nat)) (N : Nat)  : ∀ (n : Nat)  (S : HS), f_X7_readNumber_5 cs N n  S = some (r, Z) → Md ml_X7_readNumber S Z := by
  intro n
  induction n with
  | zero => intro  S h; cases h
  | succ n ih =>
    intro  S h
    rw [f_X7_readNumber_5] at h
    have g := Md.rf ml_X7_readNumber S
    obtain ⟨-, h⟩ := ck_e h
    rcases if_c h with ⟨-, h⟩ | ⟨-, h⟩
    · exact g.trans (md_X7_readNumber_68 _ _ _ h)
    · obtain ⟨-, h⟩ := ck_e h
      obtain ⟨-, h⟩ := ck_e h
      obtain ⟨r5, S6, e9, h⟩ := ob_e h
      have g := g.trans ((md_X7_isDigit _ _ _ _ _ _ e9).mono (by decide))
      rcases if_c h with ⟨-, h⟩ | ⟨-, h⟩
      · exact g.trans (md_X7_readNumber_68 _ _ _ h)
      · obtain ⟨-, h⟩ := ck_e h
        obtain ⟨S10, e9, h⟩ := lt_e h
        have g := g.ui e9 rfl
        obtain ⟨S12, e9, h⟩ := lt_e h
        have g := g.ui e9 rfl
        exact g.trans (ih _ h)
theorem md_X7_readNumber (cs : List (Nat × Nat)) (N : Nat)  (S : HS) (r : Unit) (Z : HS) (h : f_X7_readNumber cs N  S = some (r, Z)) : Md ml_X7_readNumber S Z := by
  unfold f_X7_readNumber at h
  have g := Md.rf ml_X7_readNumber S
  obtain ⟨-, h⟩ := ck_e h
  obtain ⟨S2, e9, h⟩ := lt_e h
  have g := g.ui e9 rfl
  exact g.trans (md_X7_readNumber_5 _ _ _ _ h)

abbrev ml_X7_keyword : List (Nat × Option Nat × Option Nat) := []
theorem md_X7_keyword (cs : List (Nat × Nat)) (N : Nat)  (S : HS) (r : Int32) (Z : HS) (h : f_X7_keyword cs N  S = some (r, Z)) : Md ml_X7_keyword S Z := by
  unfold f_X7_keyword at h
  have g := Md.rf ml_X7_keyword S
  obtain ⟨-, h⟩ := ck_e h
  obtain ⟨r2, S3, e9, h⟩ := ob_e h
  have g := g.trans ((md_X7_isWord _ _ _ _ _ _ e9).mono (by decide))
  rcases if_c h with ⟨-, h⟩ | ⟨-, h⟩
  · obtain ⟨r6, S7, e9, h⟩ := ob_e h
    have g := g.trans ((md_X7_isWord _ _ _ _ _ _ e9).mono (by decide))
    rcases if_c h with ⟨-, h⟩ | ⟨-, h⟩
    · obtain ⟨r10, S11, e9, h⟩ := ob_e h
      have g := g.trans ((md_X7_isWord _ _ _ _ _ _ e9).mono (by decide))
      rcases if_c h with ⟨-, h⟩ | ⟨-, h⟩
      · obtain ⟨r14, S15, e9, h⟩ := ob_e h
        have g := g.trans ((md_X7_isWord _ _ _ _ _ _ e9).mono (by decide))
        rcases if_c h with ⟨-, h⟩ | ⟨-, h⟩
        · obtain ⟨r18, S19, e9, h⟩ := ob_e h
          have g := g.trans ((md_X7_isWord _ _ _ _ _ _ e9).mono (by decide))
          rcases if_c h with ⟨-, h⟩ | ⟨-, h⟩
          · obtain ⟨r22, S23, e9, h⟩ := ob_e h
            have g := g.trans ((md_X7_isWord _ _ _ _ _ _ e9).mono (by decide))
            rcases if_c h with ⟨-, h⟩ | ⟨-, h⟩
            · obtain ⟨r26, S27, e9, h⟩ := ob_e h
              have g := g.trans ((md_X7_isWord _ _ _ _ _ _ e9).mono (by decide))
              rcases if_c h with ⟨-, h⟩ | ⟨-, h⟩
              · obtain ⟨r30, S31, e9, h⟩ := ob_e h
                have g := g.trans ((md_X7_isWord _ _ _ _ _ _ e9).mono (by decide))
                rcases if_c h with ⟨-, h⟩ | ⟨-, h⟩
                · obtain ⟨-, rfl⟩ := some_e h
                  exact g
                · obtain ⟨-, rfl⟩ := some_e h
                  exact g
              · obtain ⟨-, rfl⟩ := some_e h
                exact g
            · obtain ⟨-, rfl⟩ := some_e h
              exact g
          · obtain ⟨-, rfl⟩ := some_e h
            exact g
        · obtain ⟨-, rfl⟩ := some_e h
          exact g
      · obtain ⟨-, rfl⟩ := some_e h
        exact g
    · obtain ⟨-, rfl⟩ := some_e h
      exact g
  · obtain ⟨-, rfl⟩ := some_e h
    exact g

abbrev ml_X8_pattern : List (Nat × Option Nat × Option Nat) := [(0, some 0, some 7), (6, none, some 0), (6, none, some 1), (6, none, some 2), (7, none, some 5), (7, none, some 6), (7, none, some 7), (7, none, some 9), (7, none, some 10)]
theorem md_X8_pattern_74 {r : Int32} {Z : HS} (cs : List (Nat × Nat)) (N : Nat)  : ∀ (n : Nat) (v1 : Int32) (v5 : Int32) (S : HS), f_X8_pattern_74 cs N n v1 v5 S = some (r, Z) → Md ml_X8_pattern S Z := by
  intro n
  induction n with
  | zero => intro v1 v5 S h; cases h
  | succ n ih =>
    intro v1 v5 S h
    rw [f_X8_pattern_74] at h
    have g := Md.rf ml_X8_pattern S
    obtain ⟨-, h⟩ := ck_e h
    rcases if_c h with ⟨-, h⟩ | ⟨-, h⟩
    · obtain ⟨S3, e9, h⟩ := lt_e h
      have g := g.ui e9 rfl
      obtain ⟨-, rfl⟩ := some_e h
      exact g
    · obtain ⟨-, h⟩ := ck_e h
      obtain ⟨-, h⟩ := ck_e h
      obtain ⟨-, h⟩ := ck_e h
      rcases if_c h with ⟨-, h⟩ | ⟨-, h⟩
      · obtain ⟨-, h⟩ := ck_e h
        rcases if_c h with ⟨-, h⟩ | ⟨-, h⟩
        · obtain ⟨-, h⟩ := ck_e h
          obtain ⟨-, h⟩ := ck_e h
          obtain ⟨-, h⟩ := ck_e h
          obtain ⟨r18, S19, e9, h⟩ := ob_e h
          have g := g.trans ((md_X6_reckonAnew _ _ _ _ _ _ _ e9).mono (by decide))
          obtain ⟨x21, -, h⟩ := lt_e h
          exact g.trans (ih _ _ _ h)
        · obtain ⟨x13, -, h⟩ := lt_e h
          exact g.trans (ih _ _ _ h)
      · obtain ⟨x9, -, h⟩ := lt_e h
        exact g.trans (ih _ _ _ h)
theorem md_X8_pattern (cs : List (Nat × Nat)) (N : Nat) (a1 : Int32) (a2 : Int32) (a3 : Int32) (a4 : Int32) (S : HS) (r : Int32) (Z : HS) (h : f_X8_pattern cs N a1 a2 a3 a4 S = some (r, Z)) : Md ml_X8_pattern S Z := by
  unfold f_X8_pattern at h
  have g := Md.rf ml_X8_pattern S
  obtain ⟨r1, S2, e9, h⟩ := ob_e h
  have g := g.trans ((md_X8_isPattern _ _ _ _ _ _ e9).mono (by decide))
  rcases if_c h with ⟨-, h⟩ | ⟨-, h⟩
  · obtain ⟨-, rfl⟩ := some_e h
    exact g
  · obtain ⟨r5, S6, e9, h⟩ := ob_e h
    have g := g.trans ((md_X8_isWithin _ _ _ _ _ _ _ _ e9).mono (by decide))
    rcases if_c h with ⟨-, h⟩ | ⟨-, h⟩
    · obtain ⟨-, rfl⟩ := some_e h
      exact g
    · obtain ⟨r9, S10, e9, h⟩ := ob_e h
      have g := g.trans ((md_X8_isWithin _ _ _ _ _ _ _ _ e9).mono (by decide))
      rcases if_c h with ⟨-, h⟩ | ⟨-, h⟩
      · obtain ⟨-, rfl⟩ := some_e h
        exact g
      · obtain ⟨r13, S14, e9, h⟩ := ob_e h
        have g := g.trans ((md_X8_isWithin _ _ _ _ _ _ _ _ e9).mono (by decide))
        rcases if_c h with ⟨-, h⟩ | ⟨-, h⟩
        · obtain ⟨-, rfl⟩ := some_e h
          exact g
        · obtain ⟨-, h⟩ := ck_e h
          obtain ⟨-, h⟩ := ck_e h
          obtain ⟨-, h⟩ := ck_e h
          obtain ⟨-, h⟩ := ck_e h
          obtain ⟨S21, e9, h⟩ := lt_e h
          have g := g.ui e9 rfl
          obtain ⟨-, h⟩ := ck_e h
          obtain ⟨S24, e9, h⟩ := lt_e h
          have g := g.ui e9 rfl
          obtain ⟨-, h⟩ := ck_e h
          obtain ⟨S27, e9, h⟩ := lt_e h
          have g := g.ui e9 rfl
          exact g.trans (md_X8_pattern_74 _ _ _ _ _ _ h)

abbrev ml_X8_lend : List (Nat × Option Nat × Option Nat) := [(0, some 0, some 7), (4, none, some 2)]
theorem md_X8_lend (cs : List (Nat × Nat)) (N : Nat) (a1 : Int32) (a2 : Int32) (S : HS) (r : Int32) (Z : HS) (h : f_X8_lend cs N a1 a2 S = some (r, Z)) : Md ml_X8_lend S Z := by
  unfold f_X8_lend at h
  have g := Md.rf ml_X8_lend S
  obtain ⟨r1, S2, e9, h⟩ := ob_e h
  have g := g.trans ((md_X8_isFamily _ _ _ _ _ _ e9).mono (by decide))
  rcases if_c h with ⟨-, h⟩ | ⟨-, h⟩
  · obtain ⟨-, rfl⟩ := some_e h
    exact g
  · obtain ⟨r5, S6, e9, h⟩ := ob_e h
    have g := g.trans ((md_X8_isWithin _ _ _ _ _ _ _ _ e9).mono (by decide))
    rcases if_c h with ⟨-, h⟩ | ⟨-, h⟩
    · obtain ⟨-, rfl⟩ := some_e h
      exact g
    · obtain ⟨-, h⟩ := ck_e h
      obtain ⟨-, h⟩ := ck_e h
      obtain ⟨-, h⟩ := ck_e h
      obtain ⟨-, h⟩ := ck_e h
      rcases if_c h with ⟨-, h⟩ | ⟨-, h⟩
      · obtain ⟨-, h⟩ := ck_e h
        obtain ⟨S15, e9, h⟩ := lt_e h
        have g := g.ui e9 rfl
        obtain ⟨S17, e9, h⟩ := lt_e h
        have g := g.ui e9 rfl
        obtain ⟨-, rfl⟩ := some_e h
        exact g
      · obtain ⟨-, rfl⟩ := some_e h
        exact g

abbrev ml_X8_bring : List (Nat × Option Nat × Option Nat) := [(0, some 0, some 7), (4, none, some 2)]
theorem md_X8_bring (cs : List (Nat × Nat)) (N : Nat) (a1 : Int32) (S : HS) (r : Int32) (Z : HS) (h : f_X8_bring cs N a1 S = some (r, Z)) : Md ml_X8_bring S Z := by
  unfold f_X8_bring at h
  have g := Md.rf ml_X8_bring S
  obtain ⟨r1, S2, e9, h⟩ := ob_e h
  have g := g.trans ((md_X8_isFamily _ _ _ _ _ _ e9).mono (by decide))
  rcases if_c h with ⟨-, h⟩ | ⟨-, h⟩
  · obtain ⟨-, rfl⟩ := some_e h
    exact g
  · obtain ⟨-, h⟩ := ck_e h
    obtain ⟨-, h⟩ := ck_e h
    obtain ⟨-, h⟩ := ck_e h
    obtain ⟨-, h⟩ := ck_e h
    obtain ⟨x9, -, h⟩ := lt_e h
    obtain ⟨-, h⟩ := ck_e h
    obtain ⟨S12, e9, h⟩ := lt_e h
    have g := g.ui e9 rfl
    obtain ⟨S14, e9, h⟩ := lt_e h
    have g := g.ui e9 rfl
    obtain ⟨-, rfl⟩ := some_e h
    exact g

abbrev ml_X8_drop : List (Nat × Option Nat × Option Nat) := [(0, some 0, some 7), (7, none, some 8)]
theorem md_X8_drop (cs : List (Nat × Nat)) (N : Nat) (a1 : Int32) (S : HS) (r : Int32) (Z : HS) (h : f_X8_drop cs N a1 S = some (r, Z)) : Md ml_X8_drop S Z := by
  unfold f_X8_drop at h
  have g := Md.rf ml_X8_drop S
  obtain ⟨-, h⟩ := ck_e h
  obtain ⟨r2, S3, e9, h⟩ := ob_e h
  have g := g.trans ((md_X8_isOrder _ _ _ _ _ _ e9).mono (by decide))
  rcases if_c h with ⟨-, h⟩ | ⟨-, h⟩
  · obtain ⟨-, rfl⟩ := some_e h
    exact g
  · obtain ⟨-, h⟩ := ck_e h
    obtain ⟨-, h⟩ := ck_e h
    obtain ⟨-, h⟩ := ck_e h
    rcases if_c h with ⟨-, h⟩ | ⟨-, h⟩
    · obtain ⟨-, h⟩ := ck_e h
      obtain ⟨S11, e9, h⟩ := lt_e h
      have g := g.ui e9 rfl
      obtain ⟨S13, e9, h⟩ := lt_e h
      have g := g.ui e9 rfl
      obtain ⟨-, rfl⟩ := some_e h
      exact g
    · obtain ⟨-, rfl⟩ := some_e h
      exact g

abbrev ml_X8_end : List (Nat × Option Nat × Option Nat) := [(9, some 0, some 0)]
theorem md_X8_end (cs : List (Nat × Nat)) (N : Nat) (a1 : Int32) (S : HS) (r : Int32) (Z : HS) (h : f_X8_end cs N a1 S = some (r, Z)) : Md ml_X8_end S Z := by
  unfold f_X8_end at h
  have g := Md.rf ml_X8_end S
  obtain ⟨-, h⟩ := ck_e h
  obtain ⟨-, h⟩ := ck_e h
  obtain ⟨-, h⟩ := ck_e h
  obtain ⟨r4, S5, e9, h⟩ := ob_e h
  have g := g.trans ((md_X8_isWithin _ _ _ _ _ _ _ _ e9).mono (by decide))
  rcases if_c h with ⟨-, h⟩ | ⟨-, h⟩
  · obtain ⟨-, rfl⟩ := some_e h
    exact g
  · obtain ⟨S8, e9, h⟩ := lt_e h
    have g := g.ui e9 rfl
    obtain ⟨-, rfl⟩ := some_e h
    exact g

abbrev ml_X8_may : List (Nat × Option Nat × Option Nat) := []
theorem md_X8_may (cs : List (Nat × Nat)) (N : Nat) (a1 : Int32) (a2 : Int32) (a3 : Int32) (S : HS) (r : Int32) (Z : HS) (h : f_X8_may cs N a1 a2 a3 S = some (r, Z)) : Md ml_X8_may S Z := by
  unfold f_X8_may at h
  have g := Md.rf ml_X8_may S
  obtain ⟨r1, S2, e9, h⟩ := ob_e h
  have g := g.trans ((md_X8_isFamily _ _ _ _ _ _ e9).mono (by decide))
  rcases if_c h with ⟨-, h⟩ | ⟨-, h⟩
  · obtain ⟨-, rfl⟩ := some_e h
    exact g
  · obtain ⟨r5, S6, e9, h⟩ := ob_e h
    have g := g.trans ((md_X8_isPattern _ _ _ _ _ _ e9).mono (by decide))
    rcases if_c h with ⟨-, h⟩ | ⟨-, h⟩
    · obtain ⟨-, rfl⟩ := some_e h
      exact g
    · obtain ⟨r9, S10, e9, h⟩ := ob_e h
      have g := g.trans ((md_X8_isWithin _ _ _ _ _ _ _ _ e9).mono (by decide))
      rcases if_c h with ⟨-, h⟩ | ⟨-, h⟩
      · obtain ⟨-, rfl⟩ := some_e h
        exact g
      · obtain ⟨-, h⟩ := ck_e h
        obtain ⟨-, h⟩ := ck_e h
        obtain ⟨r15, S16, e9, h⟩ := ob_e h
        have g := g.trans ((md_X5_allow _ _ _ _ _ _ _ _ _ e9).mono (by decide))
        rcases if_c h with ⟨-, h⟩ | ⟨-, h⟩
        · obtain ⟨-, rfl⟩ := some_e h
          exact g
        · obtain ⟨-, rfl⟩ := some_e h
          exact g

abbrev ml_X8_look : List (Nat × Option Nat × Option Nat) := []
theorem md_X8_look (cs : List (Nat × Nat)) (N : Nat) (a1 : Int32) (S : HS) (r : Int32) (Z : HS) (h : f_X8_look cs N a1 S = some (r, Z)) : Md ml_X8_look S Z := by
  unfold f_X8_look at h
  have g := Md.rf ml_X8_look S
  obtain ⟨r1, S2, e9, h⟩ := ob_e h
  have g := g.trans ((md_X8_isFamily _ _ _ _ _ _ e9).mono (by decide))
  rcases if_c h with ⟨-, h⟩ | ⟨-, h⟩
  · obtain ⟨r5, S6, e9, h⟩ := ob_e h
    have g := g.trans ((md_X8_isFamily _ _ _ _ _ _ e9).mono (by decide))
    rcases if_c h with ⟨-, h⟩ | ⟨-, h⟩
    · rcases if_c h with ⟨-, h⟩ | ⟨-, h⟩
      · obtain ⟨-, h⟩ := ck_e h
        obtain ⟨-, rfl⟩ := some_e h
        exact g
      · rcases if_c h with ⟨-, h⟩ | ⟨-, h⟩
        · obtain ⟨-, h⟩ := ck_e h
          obtain ⟨-, rfl⟩ := some_e h
          exact g
        · rcases if_c h with ⟨-, h⟩ | ⟨-, h⟩
          · obtain ⟨-, h⟩ := ck_e h
            obtain ⟨r15, S16, e9, h⟩ := ob_e h
            have g := g.trans ((md_X8_countOrders _ _ _ _ _ _ e9).mono (by decide))
            obtain ⟨-, rfl⟩ := some_e h
            exact g
          · rcases if_c h with ⟨-, h⟩ | ⟨-, h⟩
            · obtain ⟨-, h⟩ := ck_e h
              obtain ⟨r20, S21, e9, h⟩ := ob_e h
              have g := g.trans ((md_X8_countOrders _ _ _ _ _ _ e9).mono (by decide))
              obtain ⟨-, rfl⟩ := some_e h
              exact g
            · rcases if_c h with ⟨-, h⟩ | ⟨-, h⟩
              · obtain ⟨-, h⟩ := ck_e h
                obtain ⟨r25, S26, e9, h⟩ := ob_e h
                have g := g.trans ((md_X8_countOrders _ _ _ _ _ _ e9).mono (by decide))
                obtain ⟨-, rfl⟩ := some_e h
                exact g
              · rcases if_c h with ⟨-, h⟩ | ⟨-, h⟩
                · obtain ⟨-, h⟩ := ck_e h
                  obtain ⟨-, rfl⟩ := some_e h
                  exact g
                · obtain ⟨-, rfl⟩ := some_e h
                  exact g
    · obtain ⟨-, h⟩ := ck_e h
      obtain ⟨-, h⟩ := ck_e h
      obtain ⟨-, h⟩ := ck_e h
      obtain ⟨-, h⟩ := ck_e h
      obtain ⟨-, rfl⟩ := some_e h
      exact g
  · obtain ⟨-, h⟩ := ck_e h
    obtain ⟨-, h⟩ := ck_e h
    obtain ⟨-, h⟩ := ck_e h
    obtain ⟨-, h⟩ := ck_e h
    obtain ⟨-, rfl⟩ := some_e h
    exact g

abbrev ml_X8_of : List (Nat × Option Nat × Option Nat) := []
theorem md_X8_of (cs : List (Nat × Nat)) (N : Nat) (a1 : Int32) (a2 : Int32) (S : HS) (r : Int32) (Z : HS) (h : f_X8_of cs N a1 a2 S = some (r, Z)) : Md ml_X8_of S Z := by
  unfold f_X8_of at h
  have g := Md.rf ml_X8_of S
  obtain ⟨-, h⟩ := ck_e h
  obtain ⟨r2, S3, e9, h⟩ := ob_e h
  have g := g.trans ((md_X8_isOrder _ _ _ _ _ _ e9).mono (by decide))
  rcases if_c h with ⟨-, h⟩ | ⟨-, h⟩
  · obtain ⟨-, rfl⟩ := some_e h
    exact g
  · obtain ⟨-, h⟩ := ck_e h
    obtain ⟨-, h⟩ := ck_e h
    rcases if_c h with ⟨-, h⟩ | ⟨-, h⟩
    · obtain ⟨-, h⟩ := ck_e h
      obtain ⟨-, rfl⟩ := some_e h
      exact g
    · rcases if_c h with ⟨-, h⟩ | ⟨-, h⟩
      · obtain ⟨-, h⟩ := ck_e h
        obtain ⟨-, rfl⟩ := some_e h
        exact g
      · rcases if_c h with ⟨-, h⟩ | ⟨-, h⟩
        · obtain ⟨-, h⟩ := ck_e h
          obtain ⟨-, rfl⟩ := some_e h
          exact g
        · rcases if_c h with ⟨-, h⟩ | ⟨-, h⟩
          · obtain ⟨-, h⟩ := ck_e h
            obtain ⟨-, rfl⟩ := some_e h
            exact g
          · rcases if_c h with ⟨-, h⟩ | ⟨-, h⟩
            · obtain ⟨-, h⟩ := ck_e h
              obtain ⟨-, rfl⟩ := some_e h
              exact g
            · rcases if_c h with ⟨-, h⟩ | ⟨-, h⟩
              · obtain ⟨-, h⟩ := ck_e h
                obtain ⟨-, rfl⟩ := some_e h
                exact g
              · rcases if_c h with ⟨-, h⟩ | ⟨-, h⟩
                · obtain ⟨-, h⟩ := ck_e h
                  obtain ⟨-, rfl⟩ := some_e h
                  exact g
                · rcases if_c h with ⟨-, h⟩ | ⟨-, h⟩
                  · obtain ⟨-, h⟩ := ck_e h
                    obtain ⟨-, rfl⟩ := some_e h
                    exact g
                  · rcases if_c h with ⟨-, h⟩ | ⟨-, h⟩
                    · obtain ⟨-, h⟩ := ck_e h
                      obtain ⟨-, rfl⟩ := some_e h
                      exact g
                    · rcases if_c h with ⟨-, h⟩ | ⟨-, h⟩
                      · obtain ⟨-, h⟩ := ck_e h
                        obtain ⟨-, rfl⟩ := some_e h
                        exact g
                      · obtain ⟨-, rfl⟩ := some_e h
                        exact g

abbrev ml_X8_workAsPlanned : List (Nat × Option Nat × Option Nat) := [(0, some 0, some 10), (4, none, some 2), (4, none, some 3), (7, none, some 8), (7, none, some 9), (7, none, some 10)]
theorem md_X8_workAsPlanned (cs : List (Nat × Nat)) (N : Nat) (a1 : Nat) (S : HS) (r : Unit) (Z : HS) (h : f_X8_workAsPlanned cs N a1 S = some (r, Z)) : Md ml_X8_workAsPlanned S Z := by
  unfold f_X8_workAsPlanned at h
  have g := Md.rf ml_X8_workAsPlanned S
  obtain ⟨-, h⟩ := ck_e h
  obtain ⟨-, h⟩ := ck_e h
  obtain ⟨-, h⟩ := ck_e h
  obtain ⟨-, h⟩ := ck_e h
  obtain ⟨-, h⟩ := ck_e h
  obtain ⟨x6, -, h⟩ := lt_e h
  obtain ⟨-, h⟩ := ck_e h
  obtain ⟨-, h⟩ := ck_e h
  obtain ⟨x10, -, h⟩ := lt_e h
  obtain ⟨r12, S13, e9, h⟩ := ob_e h
  have g := g.trans ((md_X8_isFamily _ _ _ _ _ _ e9).mono (by decide))
  rcases if_c h with ⟨-, h⟩ | ⟨-, h⟩
  · obtain ⟨-, rfl⟩ := some_e h
    exact g
  · rcases if_c h with ⟨-, h⟩ | ⟨-, h⟩
    · obtain ⟨-, rfl⟩ := some_e h
      exact g
    · obtain ⟨r17, S18, e9, h⟩ := ob_e h
      have g := g.trans ((md_X6_workBy _ _ _ _ _ _ _ _ e9).mono (by decide))
      rcases if_c h with ⟨-, h⟩ | ⟨-, h⟩
      · obtain ⟨-, rfl⟩ := some_e h
        exact g
      · obtain ⟨S21, e9, h⟩ := lt_e h
        have g := g.ui e9 rfl
        obtain ⟨-, h⟩ := ck_e h
        obtain ⟨-, h⟩ := ck_e h
        obtain ⟨-, h⟩ := ck_e h
        obtain ⟨S26, e9, h⟩ := lt_e h
        have g := g.ui e9 rfl
        obtain ⟨-, h⟩ := ck_e h
        obtain ⟨S29, e9, h⟩ := lt_e h
        have g := g.ui e9 rfl
        obtain ⟨S31, e9, h⟩ := lt_e h
        have g := g.ui e9 rfl
        obtain ⟨-, rfl⟩ := some_e h
        exact g

abbrev ml_X8_isWeekToCome : List (Nat × Option Nat × Option Nat) := []
theorem md_X8_isWeekToCome (cs : List (Nat × Nat)) (N : Nat) (a1 : Int32) (S : HS) (r : Int32) (Z : HS) (h : f_X8_isWeekToCome cs N a1 S = some (r, Z)) : Md ml_X8_isWeekToCome S Z := by
  unfold f_X8_isWeekToCome at h
  have g := Md.rf ml_X8_isWeekToCome S
  obtain ⟨-, h⟩ := ck_e h
  obtain ⟨r2, S3, e9, h⟩ := ob_e h
  have g := g.trans ((md_X8_isWithin _ _ _ _ _ _ _ _ e9).mono (by decide))
  obtain ⟨-, h⟩ := ck_e h
  obtain ⟨-, rfl⟩ := some_e h
  exact g

abbrev ml_X4_addToSets : List (Nat × Option Nat × Option Nat) := [(14, some 0, some 0), (14, some 0, some 1), (15, some 0, none), (16, some 0, none), (16, some 1, none), (16, some 2, none), (17, some 0, none)]
theorem md_X4_addToSets_128 {r : Unit} {Z : HS} (cs : List (Nat × Nat)) (N : Nat) (K18 : Nat → Nat → Nat → Int32 → Int64 → Int32 → HS → Option (Unit × HS)) (hK18 : ∀ (k2 : Nat) (k3 : Nat) (k4 : Nat) (v5 : Int32) (v6 : Int64) (v8 : Int32) (S : HS), K18 k2 k3 k4 v5 v6 v8 S = some (r, Z) → Md ml_X4_addToSets S Z) (k2 : Nat) (k3 : Nat) (k4 : Nat) (v5 : Int32) (v6 : Int64) (v8 : Int32) (v9 : Int32) (t0 : Int32) (t1 : Int32) (S : HS) (h : f_X4_addToSets_128 cs N K18 k2 k3 k4 v5 v6 v8 v9 t0 t1 S = some (r, Z)) : Md ml_X4_addToSets S Z := by
  unfold f_X4_addToSets_128 at h
  have g := Md.rf ml_X4_addToSets S
  obtain ⟨-, h⟩ := ck_e h
  obtain ⟨-, h⟩ := ck_e h
  obtain ⟨S3, e9, h⟩ := lt_e h
  have g := g.ui e9 rfl
  obtain ⟨-, h⟩ := ck_e h
  obtain ⟨-, h⟩ := ck_e h
  obtain ⟨-, h⟩ := ck_e h
  obtain ⟨-, h⟩ := ck_e h
  obtain ⟨S9, e9, h⟩ := lt_e h
  have g := g.ui e9 rfl
  obtain ⟨-, h⟩ := ck_e h
  obtain ⟨-, h⟩ := ck_e h
  obtain ⟨S13, e9, h⟩ := lt_e h
  have g := g.ui e9 rfl
  obtain ⟨-, h⟩ := ck_e h
  obtain ⟨-, h⟩ := ck_e h
  obtain ⟨-, h⟩ := ck_e h
  obtain ⟨S18, e9, h⟩ := lt_e h
  have g := g.ul e9 rfl
  obtain ⟨x20, -, h⟩ := lt_e h
  exact g.trans (hK18 _ _ _ _ _ _ _ h)
theorem md_X4_addToSets_18 {r : Unit} {Z : HS} (cs : List (Nat × Nat)) (N : Nat)  : ∀ (n : Nat) (k2 : Nat) (k3 : Nat) (k4 : Nat) (v5 : Int32) (v6 : Int64) (v8 : Int32) (S : HS), f_X4_addToSets_18 cs N n k2 k3 k4 v5 v6 v8 S = some (r, Z) → Md ml_X4_addToSets S Z := by
  intro n
  induction n with
  | zero => intro k2 k3 k4 v5 v6 v8 S h; cases h
  | succ n ih =>
    intro k2 k3 k4 v5 v6 v8 S h
    rw [f_X4_addToSets_18] at h
    have g := Md.rf ml_X4_addToSets S
    rcases if_c h with ⟨-, h⟩ | ⟨-, h⟩
    · obtain ⟨-, rfl⟩ := some_e h
      exact g
    · obtain ⟨x2, -, h⟩ := lt_e h
      obtain ⟨-, h⟩ := ck_e h
      obtain ⟨-, h⟩ := ck_e h
      obtain ⟨-, h⟩ := ck_e h
      obtain ⟨-, h⟩ := ck_e h
      obtain ⟨S8, e9, h⟩ := lt_e h
      have g := g.ui e9 rfl
      obtain ⟨-, h⟩ := ck_e h
      obtain ⟨-, h⟩ := ck_e h
      obtain ⟨S12, e9, h⟩ := lt_e h
      have g := g.ui e9 rfl
      obtain ⟨-, h⟩ := ck_e h
      obtain ⟨-, h⟩ := ck_e h
      obtain ⟨-, h⟩ := ck_e h
      obtain ⟨-, h⟩ := ck_e h
      obtain ⟨S18, e9, h⟩ := lt_e h
      have g := g.ui e9 rfl
      obtain ⟨-, h⟩ := ck_e h
      obtain ⟨-, h⟩ := ck_e h
      rcases if_c h with ⟨-, h⟩ | ⟨-, h⟩
      · exact g.trans (md_X4_addToSets_128 _ _ _ ih _ _ _ _ _ _ _ _ _ _ h)
      · obtain ⟨-, h⟩ := ck_e h
        obtain ⟨-, h⟩ := ck_e h
        rcases if_c h with ⟨-, h⟩ | ⟨-, h⟩
        · exact g.trans (md_X4_addToSets_128 _ _ _ ih _ _ _ _ _ _ _ _ _ _ h)
        · obtain ⟨r26, S27, e9, h⟩ := ob_e h
          have g := g.trans ((md_X0_lay _ _ _ _ _ _ _ _ e9).mono (by decide))
          rcases if_c h with ⟨-, h⟩ | ⟨-, h⟩
          · exact g.trans (md_X4_addToSets_128 _ _ _ ih _ _ _ _ _ _ _ _ _ _ h)
          · exact g.trans (md_X4_addToSets_128 _ _ _ ih _ _ _ _ _ _ _ _ _ _ h)
theorem md_X4_addToSets (cs : List (Nat × Nat)) (N : Nat) (a1 : Int32) (a2 : Nat) (a3 : Nat) (a4 : Nat) (S : HS) (r : Unit) (Z : HS) (h : f_X4_addToSets cs N a1 a2 a3 a4 S = some (r, Z)) : Md ml_X4_addToSets S Z := by
  unfold f_X4_addToSets at h
  have g := Md.rf ml_X4_addToSets S
  obtain ⟨x1, -, h⟩ := lt_e h
  obtain ⟨-, h⟩ := ck_e h
  obtain ⟨r4, S5, e9, h⟩ := ob_e h
  have g := g.trans ((md_X4_rankOf _ _ _ _ _ _ _ e9).mono (by decide))
  exact g.trans (md_X4_addToSets_18 _ _ _ _ _ _ _ _ _ _ h)

abbrev ml_X4_tellWay : List (Nat × Option Nat × Option Nat) := [(12, some 0, some 0), (12, some 0, some 1), (13, some 0, none), (13, some 1, none), (13, some 2, none), (14, some 0, some 0), (14, some 0, some 1)]
theorem md_X4_tellWay_109 {r : Unit} {Z : HS} (cs : List (Nat × Nat)) (N : Nat) (K63 : Nat → Int32 → Int32 → Int32 → HS → Option (Unit × HS)) (hK63 : ∀ (k3 : Nat) (v4 : Int32) (v5 : Int32) (v6 : Int32) (S : HS), K63 k3 v4 v5 v6 S = some (r, Z) → Md ml_X4_tellWay S Z) : ∀ (n : Nat) (k3 : Nat) (v4 : Int32) (v5 : Int32) (v6 : Int32) (v7 : Int32) (v8 : Int32) (S : HS), f_X4_tellWay_109 cs N K63 n k3 v4 v5 v6 v7 v8 S = some (r, Z) → Md ml_X4_tellWay S Z := by
  intro n
  induction n with
  | zero => intro k3 v4 v5 v6 v7 v8 S h; cases h
  | succ n ih =>
    intro k3 v4 v5 v6 v7 v8 S h
    rw [f_X4_tellWay_109] at h
    have g := Md.rf ml_X4_tellWay S
    obtain ⟨-, h⟩ := ck_e h
    rcases if_c h with ⟨-, h⟩ | ⟨-, h⟩
    · obtain ⟨x3, -, h⟩ := lt_e h
      obtain ⟨x5, -, h⟩ := lt_e h
      exact g.trans (hK63 _ _ _ _ _ h)
    · rcases if_c h with ⟨-, h⟩ | ⟨-, h⟩
      · obtain ⟨-, h⟩ := ck_e h
        obtain ⟨-, h⟩ := ck_e h
        obtain ⟨-, h⟩ := ck_e h
        obtain ⟨-, h⟩ := ck_e h
        obtain ⟨-, h⟩ := ck_e h
        obtain ⟨-, h⟩ := ck_e h
        obtain ⟨r16, S17, e9, h⟩ := ob_e h
        have g := g.trans ((md_X4_tellOrder _ _ _ _ _ _ _ _ _ e9).mono (by decide))
        obtain ⟨x19, -, h⟩ := lt_e h
        exact g.trans (ih _ _ _ _ _ _ _ h)
      · obtain ⟨x8, -, h⟩ := lt_e h
        exact g.trans (ih _ _ _ _ _ _ _ h)
theorem md_X4_tellWay_63 {r : Unit} {Z : HS} (cs : List (Nat × Nat)) (N : Nat)  : ∀ (n : Nat) (k3 : Nat) (v4 : Int32) (v5 : Int32) (v6 : Int32) (S : HS), f_X4_tellWay_63 cs N n k3 v4 v5 v6 S = some (r, Z) → Md ml_X4_tellWay S Z := by
  intro n
  induction n with
  | zero => intro k3 v4 v5 v6 S h; cases h
  | succ n ih =>
    intro k3 v4 v5 v6 S h
    rw [f_X4_tellWay_63] at h
    have g := Md.rf ml_X4_tellWay S
    rcases if_c h with ⟨-, h⟩ | ⟨-, h⟩
    · obtain ⟨-, rfl⟩ := some_e h
      exact g
    · obtain ⟨-, h⟩ := ck_e h
      obtain ⟨-, h⟩ := ck_e h
      obtain ⟨-, h⟩ := ck_e h
      obtain ⟨-, h⟩ := ck_e h
      obtain ⟨-, h⟩ := ck_e h
      obtain ⟨x7, -, h⟩ := lt_e h
      obtain ⟨-, h⟩ := ck_e h
      obtain ⟨S10, e9, h⟩ := lt_e h
      have g := g.ui e9 rfl
      obtain ⟨-, h⟩ := ck_e h
      obtain ⟨-, h⟩ := ck_e h
      obtain ⟨-, h⟩ := ck_e h
      obtain ⟨-, h⟩ := ck_e h
      obtain ⟨-, h⟩ := ck_e h
      obtain ⟨S17, e9, h⟩ := lt_e h
      have g := g.ui e9 rfl
      exact g.trans (md_X4_tellWay_109 _ _ _ ih _ _ _ _ _ _ _ _ h)
theorem md_X4_tellWay_13 {r : Unit} {Z : HS} (cs : List (Nat × Nat)) (N : Nat)  : ∀ (n : Nat) (k3 : Nat) (v4 : Int32) (v5 : Int32) (S : HS), f_X4_tellWay_13 cs N n k3 v4 v5 S = some (r, Z) → Md ml_X4_tellWay S Z := by
  intro n
  induction n with
  | zero => intro k3 v4 v5 S h; cases h
  | succ n ih =>
    intro k3 v4 v5 S h
    rw [f_X4_tellWay_13] at h
    have g := Md.rf ml_X4_tellWay S
    rcases if_c h with ⟨-, h⟩ | ⟨-, h⟩
    · obtain ⟨-, h⟩ := ck_e h
      obtain ⟨x3, -, h⟩ := lt_e h
      exact g.trans (md_X4_tellWay_63 _ _ _ _ _ _ _ _ h)
    · obtain ⟨-, h⟩ := ck_e h
      obtain ⟨-, h⟩ := ck_e h
      obtain ⟨-, h⟩ := ck_e h
      obtain ⟨S8, e9, h⟩ := lt_e h
      have g := g.ui e9 rfl
      obtain ⟨-, h⟩ := ck_e h
      obtain ⟨-, h⟩ := ck_e h
      obtain ⟨S12, e9, h⟩ := lt_e h
      have g := g.ui e9 rfl
      obtain ⟨-, h⟩ := ck_e h
      obtain ⟨-, h⟩ := ck_e h
      obtain ⟨S16, e9, h⟩ := lt_e h
      have g := g.ui e9 rfl
      obtain ⟨x18, -, h⟩ := lt_e h
      exact g.trans (ih _ _ _ _ h)
theorem md_X4_tellWay (cs : List (Nat × Nat)) (N : Nat) (a3 : Nat) (a4 : Int32) (S : HS) (r : Unit) (Z : HS) (h : f_X4_tellWay cs N a3 a4 S = some (r, Z)) : Md ml_X4_tellWay S Z := by
  unfold f_X4_tellWay at h
  have g := Md.rf ml_X4_tellWay S
  obtain ⟨-, h⟩ := ck_e h
  obtain ⟨S2, e9, h⟩ := lt_e h
  have g := g.ui e9 rfl
  obtain ⟨S4, e9, h⟩ := lt_e h
  have g := g.ui e9 rfl
  exact g.trans (md_X4_tellWay_13 _ _ _ _ _ _ _ h)

abbrev ml_X7_readToken : List (Nat × Option Nat × Option Nat) := [(9, some 0, some 1), (9, some 0, some 2), (9, some 0, some 3), (9, some 0, some 5)]
theorem md_X7_readToken (cs : List (Nat × Nat)) (N : Nat)  (S : HS) (r : Unit) (Z : HS) (h : f_X7_readToken cs N  S = some (r, Z)) : Md ml_X7_readToken S Z := by
  unfold f_X7_readToken at h
  have g := Md.rf ml_X7_readToken S
  obtain ⟨-, h⟩ := ck_e h
  obtain ⟨r2, S3, e9, h⟩ := ob_e h
  have g := g.trans ((md_X7_skipBlanks _ _ _ _ _ e9).mono (by decide))
  obtain ⟨S5, e9, h⟩ := lt_e h
  have g := g.ui e9 rfl
  rcases if_c h with ⟨-, h⟩ | ⟨-, h⟩
  · obtain ⟨-, h⟩ := ck_e h
    obtain ⟨-, h⟩ := ck_e h
    obtain ⟨r10, S11, e9, h⟩ := ob_e h
    have g := g.trans ((md_X7_isLetter _ _ _ _ _ _ e9).mono (by decide))
    rcases if_c h with ⟨-, h⟩ | ⟨-, h⟩
    · obtain ⟨-, h⟩ := ck_e h
      obtain ⟨r15, S16, e9, h⟩ := ob_e h
      have g := g.trans ((md_X7_isDigit _ _ _ _ _ _ e9).mono (by decide))
      rcases if_c h with ⟨-, h⟩ | ⟨-, h⟩
      · obtain ⟨-, h⟩ := ck_e h
        rcases if_c h with ⟨-, h⟩ | ⟨-, h⟩
        · obtain ⟨S25, e9, h⟩ := lt_e h
          have g := g.ui e9 rfl
          obtain ⟨S27, e9, h⟩ := lt_e h
          have g := g.ui e9 rfl
          obtain ⟨-, rfl⟩ := some_e h
          exact g
        · obtain ⟨S21, e9, h⟩ := lt_e h
          have g := g.ui e9 rfl
          obtain ⟨S23, e9, h⟩ := lt_e h
          have g := g.ui e9 rfl
          obtain ⟨-, rfl⟩ := some_e h
          exact g
      · obtain ⟨r29, S30, e9, h⟩ := ob_e h
        have g := g.trans ((md_X7_readNumber _ _ _ _ _ e9).mono (by decide))
        obtain ⟨-, rfl⟩ := some_e h
        exact g
    · obtain ⟨r32, S33, e9, h⟩ := ob_e h
      have g := g.trans ((md_X7_skipLetters _ _ _ _ _ e9).mono (by decide))
      obtain ⟨r35, S36, e9, h⟩ := ob_e h
      have g := g.trans ((md_X7_keyword _ _ _ _ _ e9).mono (by decide))
      obtain ⟨S38, e9, h⟩ := lt_e h
      have g := g.ui e9 rfl
      obtain ⟨-, rfl⟩ := some_e h
      exact g
  · obtain ⟨S40, e9, h⟩ := lt_e h
    have g := g.ui e9 rfl
    obtain ⟨-, rfl⟩ := some_e h
    exact g

abbrev ml_X8_hours : List (Nat × Option Nat × Option Nat) := [(0, some 0, some 7), (5, none, none)]
theorem md_X8_hours (cs : List (Nat × Nat)) (N : Nat) (a1 : Int32) (a2 : Int32) (a3 : Int32) (S : HS) (r : Int32) (Z : HS) (h : f_X8_hours cs N a1 a2 a3 S = some (r, Z)) : Md ml_X8_hours S Z := by
  unfold f_X8_hours at h
  have g := Md.rf ml_X8_hours S
  obtain ⟨r1, S2, e9, h⟩ := ob_e h
  have g := g.trans ((md_X8_isFamily _ _ _ _ _ _ e9).mono (by decide))
  rcases if_c h with ⟨-, h⟩ | ⟨-, h⟩
  · obtain ⟨-, rfl⟩ := some_e h
    exact g
  · obtain ⟨-, h⟩ := ck_e h
    obtain ⟨r6, S7, e9, h⟩ := ob_e h
    have g := g.trans ((md_X8_isWeekToCome _ _ _ _ _ _ e9).mono (by decide))
    rcases if_c h with ⟨-, h⟩ | ⟨-, h⟩
    · obtain ⟨-, rfl⟩ := some_e h
      exact g
    · obtain ⟨r10, S11, e9, h⟩ := ob_e h
      have g := g.trans ((md_X8_isWithin _ _ _ _ _ _ _ _ e9).mono (by decide))
      rcases if_c h with ⟨-, h⟩ | ⟨-, h⟩
      · obtain ⟨-, rfl⟩ := some_e h
        exact g
      · obtain ⟨-, h⟩ := ck_e h
        obtain ⟨-, h⟩ := ck_e h
        obtain ⟨-, h⟩ := ck_e h
        obtain ⟨-, h⟩ := ck_e h
        obtain ⟨-, h⟩ := ck_e h
        obtain ⟨S19, e9, h⟩ := lt_e h
        have g := g.ui e9 rfl
        obtain ⟨S21, e9, h⟩ := lt_e h
        have g := g.ui e9 rfl
        obtain ⟨-, rfl⟩ := some_e h
        exact g

abbrev ml_X8_order : List (Nat × Option Nat × Option Nat) := [(0, some 0, some 7), (0, some 0, some 9), (7, none, some 1), (7, none, some 2), (7, none, some 3), (7, none, some 4), (7, none, some 5), (7, none, some 6), (7, none, some 7), (7, none, some 9), (7, none, some 10)]
theorem md_X8_order (cs : List (Nat × Nat)) (N : Nat) (a1 : Int32) (a2 : Int32) (a3 : Int32) (a4 : Int32) (S : HS) (r : Int32) (Z : HS) (h : f_X8_order cs N a1 a2 a3 a4 S = some (r, Z)) : Md ml_X8_order S Z := by
  unfold f_X8_order at h
  have g := Md.rf ml_X8_order S
  obtain ⟨r1, S2, e9, h⟩ := ob_e h
  have g := g.trans ((md_X8_isPattern _ _ _ _ _ _ e9).mono (by decide))
  rcases if_c h with ⟨-, h⟩ | ⟨-, h⟩
  · obtain ⟨-, rfl⟩ := some_e h
    exact g
  · obtain ⟨r5, S6, e9, h⟩ := ob_e h
    have g := g.trans ((md_X8_isWithin _ _ _ _ _ _ _ _ e9).mono (by decide))
    rcases if_c h with ⟨-, h⟩ | ⟨-, h⟩
    · obtain ⟨-, rfl⟩ := some_e h
      exact g
    · obtain ⟨-, h⟩ := ck_e h
      obtain ⟨r10, S11, e9, h⟩ := ob_e h
      have g := g.trans ((md_X8_isWeekToCome _ _ _ _ _ _ e9).mono (by decide))
      rcases if_c h with ⟨-, h⟩ | ⟨-, h⟩
      · obtain ⟨-, rfl⟩ := some_e h
        exact g
      · obtain ⟨r14, S15, e9, h⟩ := ob_e h
        have g := g.trans ((md_X8_isWithin _ _ _ _ _ _ _ _ e9).mono (by decide))
        rcases if_c h with ⟨-, h⟩ | ⟨-, h⟩
        · obtain ⟨-, rfl⟩ := some_e h
          exact g
        · rcases if_c h with ⟨-, h⟩ | ⟨-, h⟩
          · obtain ⟨-, h⟩ := ck_e h
            obtain ⟨-, h⟩ := ck_e h
            obtain ⟨-, h⟩ := ck_e h
            obtain ⟨S22, e9, h⟩ := lt_e h
            have g := g.ui e9 rfl
            obtain ⟨S24, e9, h⟩ := lt_e h
            have g := g.ui e9 rfl
            obtain ⟨S26, e9, h⟩ := lt_e h
            have g := g.ui e9 rfl
            obtain ⟨S28, e9, h⟩ := lt_e h
            have g := g.ui e9 rfl
            obtain ⟨-, h⟩ := ck_e h
            obtain ⟨-, h⟩ := ck_e h
            obtain ⟨r32, S33, e9, h⟩ := ob_e h
            have g := g.trans ((md_X6_reckonAnew _ _ _ _ _ _ _ e9).mono (by decide))
            obtain ⟨S35, e9, h⟩ := lt_e h
            have g := g.ui e9 rfl
            obtain ⟨S37, e9, h⟩ := lt_e h
            have g := g.ui e9 rfl
            obtain ⟨-, rfl⟩ := some_e h
            exact g
          · obtain ⟨-, rfl⟩ := some_e h
            exact g

abbrev ml_X1_readParts : List (Nat × Option Nat × Option Nat) := [(8, some 0, some 2), (8, some 0, some 3), (9, some 0, some 1), (9, some 0, some 2), (9, some 0, some 3), (9, some 0, some 5), (11, some 0, none)]
theorem md_X1_readParts_111 {r : Int32} {Z : HS} (cs : List (Nat × Nat)) (N : Nat) (K4 : Nat → Int32 → Int32 → HS → Option (Int32 × HS)) (hK4 : ∀ (k1 : Nat) (v2 : Int32) (v3 : Int32) (S : HS), K4 k1 v2 v3 S = some (r, Z) → Md ml_X1_readParts S Z) (k1 : Nat) (v2 : Int32) (v3 : Int32) (S : HS) (h : f_X1_readParts_111 cs N K4 k1 v2 v3 S = some (r, Z)) : Md ml_X1_readParts S Z := by
  unfold f_X1_readParts_111 at h
  have g := Md.rf ml_X1_readParts S
  obtain ⟨-, h⟩ := ck_e h
  obtain ⟨-, h⟩ := ck_e h
  obtain ⟨r3, S4, e9, h⟩ := ob_e h
  have g := g.trans ((md_X7_readToken _ _ _ _ _ e9).mono (by decide))
  obtain ⟨x6, -, h⟩ := lt_e h
  exact g.trans (hK4 _ _ _ _ h)
theorem md_X1_readParts_44 {r : Int32} {Z : HS} (cs : List (Nat × Nat)) (N : Nat) (K4 : Nat → Int32 → Int32 → HS → Option (Int32 × HS)) (hK4 : ∀ (k1 : Nat) (v2 : Int32) (v3 : Int32) (S : HS), K4 k1 v2 v3 S = some (r, Z) → Md ml_X1_readParts S Z) (k1 : Nat) (v2 : Int32) (v3 : Int32) (v4 : Int32) (t0 : Int32) (t1 : Int32) (S : HS) (h : f_X1_readParts_44 cs N K4 k1 v2 v3 v4 t0 t1 S = some (r, Z)) : Md ml_X1_readParts S Z := by
  unfold f_X1_readParts_44 at h
  have g := Md.rf ml_X1_readParts S
  rcases if_c h with ⟨-, h⟩ | ⟨-, h⟩
  · rcases if_c h with ⟨-, h⟩ | ⟨-, h⟩
    · exact g.trans (md_X1_readParts_111 _ _ _ hK4 _ _ _ _ h)
    · rcases if_c h with ⟨-, h⟩ | ⟨-, h⟩
      · exact g.trans (md_X1_readParts_111 _ _ _ hK4 _ _ _ _ h)
      · obtain ⟨-, h⟩ := ck_e h
        obtain ⟨-, h⟩ := ck_e h
        obtain ⟨-, h⟩ := ck_e h
        obtain ⟨-, h⟩ := ck_e h
        obtain ⟨r8, S9, e9, h⟩ := ob_e h
        have g := g.trans ((md_X1_leastOf _ _ _ _ _ _ e9).mono (by decide))
        obtain ⟨-, h⟩ := ck_e h
        obtain ⟨r12, S13, e9, h⟩ := ob_e h
        have g := g.trans ((md_X1_mostOf _ _ _ _ _ _ e9).mono (by decide))
        obtain ⟨r15, S16, e9, h⟩ := ob_e h
        have g := g.trans ((md_X8_isWithin _ _ _ _ _ _ _ _ e9).mono (by decide))
        rcases if_c h with ⟨-, h⟩ | ⟨-, h⟩
        · obtain ⟨r25, S26, e9, h⟩ := ob_e h
          have g := g.trans ((md_X1_stopAt _ _ _ _ _ _ e9).mono (by decide))
          obtain ⟨-, h⟩ := ck_e h
          obtain ⟨-, rfl⟩ := some_e h
          exact g
        · obtain ⟨-, h⟩ := ck_e h
          obtain ⟨-, h⟩ := ck_e h
          obtain ⟨S21, e9, h⟩ := lt_e h
          have g := g.ui e9 rfl
          obtain ⟨x23, -, h⟩ := lt_e h
          exact g.trans (md_X1_readParts_111 _ _ _ hK4 _ _ _ _ h)
  · obtain ⟨-, h⟩ := ck_e h
    obtain ⟨r30, S31, e9, h⟩ := ob_e h
    have g := g.trans ((md_X1_stopAt _ _ _ _ _ _ e9).mono (by decide))
    obtain ⟨-, h⟩ := ck_e h
    obtain ⟨-, rfl⟩ := some_e h
    exact g
theorem md_X1_readParts_23 {r : Int32} {Z : HS} (cs : List (Nat × Nat)) (N : Nat) (K4 : Nat → Int32 → Int32 → HS → Option (Int32 × HS)) (hK4 : ∀ (k1 : Nat) (v2 : Int32) (v3 : Int32) (S : HS), K4 k1 v2 v3 S = some (r, Z) → Md ml_X1_readParts S Z) (k1 : Nat) (v2 : Int32) (v3 : Int32) (t0 : Int32) (S : HS) (h : f_X1_readParts_23 cs N K4 k1 v2 v3 t0 S = some (r, Z)) : Md ml_X1_readParts S Z := by
  unfold f_X1_readParts_23 at h
  have g := Md.rf ml_X1_readParts S
  obtain ⟨-, h⟩ := ck_e h
  obtain ⟨-, h⟩ := ck_e h
  rcases if_c h with ⟨-, h⟩ | ⟨-, h⟩
  · obtain ⟨-, h⟩ := ck_e h
    obtain ⟨-, h⟩ := ck_e h
    exact g.trans (md_X1_readParts_44 _ _ _ hK4 _ _ _ _ _ _ _ h)
  · exact g.trans (md_X1_readParts_44 _ _ _ hK4 _ _ _ _ _ _ _ h)
theorem md_X1_readParts_4 {r : Int32} {Z : HS} (cs : List (Nat × Nat)) (N : Nat)  : ∀ (n : Nat) (k1 : Nat) (v2 : Int32) (v3 : Int32) (S : HS), f_X1_readParts_4 cs N n k1 v2 v3 S = some (r, Z) → Md ml_X1_readParts S Z := by
  intro n
  induction n with
  | zero => intro k1 v2 v3 S h; cases h
  | succ n ih =>
    intro k1 v2 v3 S h
    rw [f_X1_readParts_4] at h
    have g := Md.rf ml_X1_readParts S
    obtain ⟨-, h⟩ := ck_e h
    rcases if_c h with ⟨-, h⟩ | ⟨-, h⟩
    · obtain ⟨-, rfl⟩ := some_e h
      exact g
    · obtain ⟨-, h⟩ := ck_e h
      rcases if_c h with ⟨-, h⟩ | ⟨-, h⟩
      · exact g.trans (md_X1_readParts_23 _ _ _ ih _ _ _ _ _ h)
      · exact g.trans (md_X1_readParts_23 _ _ _ ih _ _ _ _ _ h)
theorem md_X1_readParts (cs : List (Nat × Nat)) (N : Nat) (a1 : Nat) (S : HS) (r : Int32) (Z : HS) (h : f_X1_readParts cs N a1 S = some (r, Z)) : Md ml_X1_readParts S Z := by
  unfold f_X1_readParts at h
  have g := Md.rf ml_X1_readParts S
  exact g.trans (md_X1_readParts_4 _ _ _ _ _ _ _ h)

abbrev ml_X4_find : List (Nat × Option Nat × Option Nat) := [(12, some 0, some 0), (12, some 0, some 1), (12, some 0, some 6), (13, some 0, none), (13, some 1, none), (13, some 2, none), (13, some 3, none), (14, some 0, some 0), (14, some 0, some 1), (15, some 0, none), (16, some 0, none), (16, some 1, none), (16, some 2, none), (17, some 0, none), (17, some 1, none), (19, none, none)]
theorem md_X4_find_56 {r : Unit} {Z : HS} (cs : List (Nat × Nat)) (N : Nat) (K37 : Nat → Int32 → Int32 → HS → Option (Unit × HS)) (hK37 : ∀ (k4 : Nat) (v5 : Int32) (v6 : Int32) (S : HS), K37 k4 v5 v6 S = some (r, Z) → Md ml_X4_find S Z) : ∀ (n : Nat) (k4 : Nat) (v5 : Int32) (v6 : Int32) (v7 : Int32) (S : HS), f_X4_find_56 cs N K37 n k4 v5 v6 v7 S = some (r, Z) → Md ml_X4_find S Z := by
  intro n
  induction n with
  | zero => intro k4 v5 v6 v7 S h; cases h
  | succ n ih =>
    intro k4 v5 v6 v7 S h
    rw [f_X4_find_56] at h
    have g := Md.rf ml_X4_find S
    obtain ⟨-, h⟩ := ck_e h
    rcases if_c h with ⟨-, h⟩ | ⟨-, h⟩
    · obtain ⟨r3, S4, e9, h⟩ := ob_e h
      have g := g.trans ((md_X4_shareAlsoWith _ _ _ _ _ _ e9).mono (by decide))
      obtain ⟨x6, -, h⟩ := lt_e h
      exact g.trans (hK37 _ _ _ _ h)
    · obtain ⟨-, h⟩ := ck_e h
      obtain ⟨-, h⟩ := ck_e h
      obtain ⟨-, h⟩ := ck_e h
      obtain ⟨-, h⟩ := ck_e h
      obtain ⟨-, h⟩ := ck_e h
      obtain ⟨-, h⟩ := ck_e h
      obtain ⟨r14, S15, e9, h⟩ := ob_e h
      have g := g.trans ((md_X4_addToSets _ _ _ _ _ _ _ _ _ e9).mono (by decide))
      obtain ⟨x17, -, h⟩ := lt_e h
      exact g.trans (ih _ _ _ _ _ h)
theorem md_X4_find_37 {r : Unit} {Z : HS} (cs : List (Nat × Nat)) (N : Nat)  : ∀ (n : Nat) (k4 : Nat) (v5 : Int32) (v6 : Int32) (S : HS), f_X4_find_37 cs N n k4 v5 v6 S = some (r, Z) → Md ml_X4_find S Z := by
  intro n
  induction n with
  | zero => intro k4 v5 v6 S h; cases h
  | succ n ih =>
    intro k4 v5 v6 S h
    rw [f_X4_find_37] at h
    have g := Md.rf ml_X4_find S
    rcases if_c h with ⟨-, h⟩ | ⟨-, h⟩
    · obtain ⟨-, h⟩ := ck_e h
      obtain ⟨r3, S4, e9, h⟩ := ob_e h
      have g := g.trans ((md_X4_tellWay _ _ _ _ _ _ _ e9).mono (by decide))
      obtain ⟨-, rfl⟩ := some_e h
      exact g
    · obtain ⟨-, h⟩ := ck_e h
      obtain ⟨-, h⟩ := ck_e h
      obtain ⟨-, h⟩ := ck_e h
      obtain ⟨r9, S10, e9, h⟩ := ob_e h
      have g := g.trans ((md_X4_startAt _ _ _ _ _ _ _ e9).mono (by decide))
      exact g.trans (md_X4_find_56 _ _ _ ih _ _ _ _ _ _ h)
theorem md_X4_find_9 {r : Unit} {Z : HS} (cs : List (Nat × Nat)) (N : Nat)  : ∀ (n : Nat) (k4 : Nat) (v5 : Int32) (v6 : Int32) (S : HS), f_X4_find_9 cs N n k4 v5 v6 S = some (r, Z) → Md ml_X4_find S Z := by
  intro n
  induction n with
  | zero => intro k4 v5 v6 S h; cases h
  | succ n ih =>
    intro k4 v5 v6 S h
    rw [f_X4_find_9] at h
    have g := Md.rf ml_X4_find S
    obtain ⟨-, h⟩ := ck_e h
    rcases if_c h with ⟨-, h⟩ | ⟨-, h⟩
    · exact g.trans (md_X4_find_37 _ _ _ _ _ _ _ h)
    · obtain ⟨-, h⟩ := ck_e h
      obtain ⟨-, h⟩ := ck_e h
      obtain ⟨S5, e9, h⟩ := lt_e h
      have g := g.ul e9 rfl
      obtain ⟨x7, -, h⟩ := lt_e h
      exact g.trans (ih _ _ _ _ h)
theorem md_X4_find (cs : List (Nat × Nat)) (N : Nat) (a3 : Int32) (a4 : Nat) (a5 : Int32) (S : HS) (r : Unit) (Z : HS) (h : f_X4_find cs N a3 a4 a5 S = some (r, Z)) : Md ml_X4_find S Z := by
  unfold f_X4_find at h
  have g := Md.rf ml_X4_find S
  obtain ⟨-, h⟩ := ck_e h
  obtain ⟨r2, S3, e9, h⟩ := ob_e h
  have g := g.trans ((md_X4_lineUp _ _ _ _ _ _ e9).mono (by decide))
  exact g.trans (md_X4_find_9 _ _ _ _ _ _ _ h)

abbrev ml_X7_rewind : List (Nat × Option Nat × Option Nat) := [(9, some 0, some 1), (9, some 0, some 2), (9, some 0, some 3), (9, some 0, some 5)]
theorem md_X7_rewind (cs : List (Nat × Nat)) (N : Nat)  (S : HS) (r : Unit) (Z : HS) (h : f_X7_rewind cs N  S = some (r, Z)) : Md ml_X7_rewind S Z := by
  unfold f_X7_rewind at h
  have g := Md.rf ml_X7_rewind S
  obtain ⟨-, h⟩ := ck_e h
  obtain ⟨S2, e9, h⟩ := lt_e h
  have g := g.ui e9 rfl
  obtain ⟨r4, S5, e9, h⟩ := ob_e h
  have g := g.trans ((md_X7_readToken _ _ _ _ _ e9).mono (by decide))
  obtain ⟨-, rfl⟩ := some_e h
  exact g

abbrev ml_X8_bringPlanUpToDate : List (Nat × Option Nat × Option Nat) := [(0, some 0, some 7), (12, some 0, some 0), (12, some 0, some 1), (12, some 0, some 6), (13, some 0, none), (13, some 1, none), (13, some 2, none), (13, some 3, none), (14, some 0, some 0), (14, some 0, some 1), (15, some 0, none), (16, some 0, none), (16, some 1, none), (16, some 2, none), (17, some 0, none), (17, some 1, none), (19, none, none)]
theorem md_X8_bringPlanUpToDate (cs : List (Nat × Nat)) (N : Nat)  (S : HS) (r : Unit) (Z : HS) (h : f_X8_bringPlanUpToDate cs N  S = some (r, Z)) : Md ml_X8_bringPlanUpToDate S Z := by
  unfold f_X8_bringPlanUpToDate at h
  have g := Md.rf ml_X8_bringPlanUpToDate S
  obtain ⟨-, h⟩ := ck_e h
  rcases if_c h with ⟨-, h⟩ | ⟨-, h⟩
  · obtain ⟨-, h⟩ := ck_e h
    obtain ⟨r4, S5, e9, h⟩ := ob_e h
    have g := g.trans ((md_X4_find _ _ _ _ _ _ _ _ e9).mono (by decide))
    obtain ⟨S7, e9, h⟩ := lt_e h
    have g := g.ui e9 rfl
    obtain ⟨-, rfl⟩ := some_e h
    exact g
  · obtain ⟨-, rfl⟩ := some_e h
    exact g

abbrev ml_X1_readLine : List (Nat × Option Nat × Option Nat) := [(8, some 0, some 1), (8, some 0, some 2), (8, some 0, some 3), (9, some 0, some 1), (9, some 0, some 2), (9, some 0, some 3), (9, some 0, some 5), (11, some 0, none), (21, none, none), (23, none, none), (24, none, none)]
theorem md_X1_readLine_37 {r : Int32} {Z : HS} (cs : List (Nat × Nat)) (N : Nat)  (k1 : Nat) (v2 : Int32) (S : HS) (h : f_X1_readLine_37 cs N k1 v2 S = some (r, Z)) : Md ml_X1_readLine S Z := by
  unfold f_X1_readLine_37 at h
  have g := Md.rf ml_X1_readLine S
  obtain ⟨-, h⟩ := ck_e h
  rcases if_c h with ⟨-, h⟩ | ⟨-, h⟩
  · obtain ⟨-, h⟩ := ck_e h
    obtain ⟨r4, S5, e9, h⟩ := ob_e h
    have g := g.trans ((md_X7_readToken _ _ _ _ _ e9).mono (by decide))
    obtain ⟨r7, S8, e9, h⟩ := ob_e h
    have g := g.trans ((md_X1_formOf _ _ _ _ _ _ e9).mono (by decide))
    obtain ⟨r10, S11, e9, h⟩ := ob_e h
    have g := g.trans ((md_X1_readParts _ _ _ _ _ _ e9).mono (by decide))
    rcases if_c h with ⟨-, h⟩ | ⟨-, h⟩
    · obtain ⟨-, rfl⟩ := some_e h
      exact g
    · obtain ⟨r14, S15, e9, h⟩ := ob_e h
      have g := g.trans ((md_X1_tell _ _ _ _ _ _ _ e9).mono (by decide))
      obtain ⟨S17, e9, h⟩ := lt_e h
      have g := g.ui e9 rfl
      obtain ⟨-, rfl⟩ := some_e h
      exact g
  · obtain ⟨r19, S20, e9, h⟩ := ob_e h
    have g := g.trans ((md_X1_stopAt _ _ _ _ _ _ e9).mono (by decide))
    obtain ⟨-, h⟩ := ck_e h
    obtain ⟨-, rfl⟩ := some_e h
    exact g
theorem md_X1_readLine (cs : List (Nat × Nat)) (N : Nat) (a1 : Nat) (S : HS) (r : Int32) (Z : HS) (h : f_X1_readLine cs N a1 S = some (r, Z)) : Md ml_X1_readLine S Z := by
  unfold f_X1_readLine at h
  have g := Md.rf ml_X1_readLine S
  obtain ⟨-, h⟩ := ck_e h
  obtain ⟨-, h⟩ := ck_e h
  obtain ⟨x3, -, h⟩ := lt_e h
  rcases if_c h with ⟨-, h⟩ | ⟨-, h⟩
  · exact g.trans (md_X1_readLine_37 _ _ _ _ _ h)
  · rcases if_c h with ⟨-, h⟩ | ⟨-, h⟩
    · exact g.trans (md_X1_readLine_37 _ _ _ _ _ h)
    · rcases if_c h with ⟨-, h⟩ | ⟨-, h⟩
      · exact g.trans (md_X1_readLine_37 _ _ _ _ _ h)
      · rcases if_c h with ⟨-, h⟩ | ⟨-, h⟩
        · exact g.trans (md_X1_readLine_37 _ _ _ _ _ h)
        · obtain ⟨r9, S10, e9, h⟩ := ob_e h
          have g := g.trans ((md_X1_stopAt _ _ _ _ _ _ e9).mono (by decide))
          obtain ⟨-, h⟩ := ck_e h
          obtain ⟨-, rfl⟩ := some_e h
          exact g

abbrev ml_X8_best : List (Nat × Option Nat × Option Nat) := [(0, some 0, some 7), (12, some 0, some 0), (12, some 0, some 1), (12, some 0, some 6), (13, some 0, none), (13, some 1, none), (13, some 2, none), (13, some 3, none), (14, some 0, some 0), (14, some 0, some 1), (15, some 0, none), (16, some 0, none), (16, some 1, none), (16, some 2, none), (17, some 0, none), (17, some 1, none), (19, none, none)]
theorem md_X8_best (cs : List (Nat × Nat)) (N : Nat) (a1 : Int32) (S : HS) (r : Int32) (Z : HS) (h : f_X8_best cs N a1 S = some (r, Z)) : Md ml_X8_best S Z := by
  unfold f_X8_best at h
  have g := Md.rf ml_X8_best S
  obtain ⟨-, h⟩ := ck_e h
  obtain ⟨r2, S3, e9, h⟩ := ob_e h
  have g := g.trans ((md_X8_bringPlanUpToDate _ _ _ _ _ e9).mono (by decide))
  obtain ⟨r5, S6, e9, h⟩ := ob_e h
  have g := g.trans ((md_X8_isOrder _ _ _ _ _ _ e9).mono (by decide))
  rcases if_c h with ⟨-, h⟩ | ⟨-, h⟩
  · obtain ⟨r9, S10, e9, h⟩ := ob_e h
    have g := g.trans ((md_X8_isOrder _ _ _ _ _ _ e9).mono (by decide))
    rcases if_c h with ⟨-, h⟩ | ⟨-, h⟩
    · rcases if_c h with ⟨-, h⟩ | ⟨-, h⟩
      · obtain ⟨-, h⟩ := ck_e h
        obtain ⟨-, rfl⟩ := some_e h
        exact g
      · rcases if_c h with ⟨-, h⟩ | ⟨-, h⟩
        · obtain ⟨-, h⟩ := ck_e h
          obtain ⟨-, rfl⟩ := some_e h
          exact g
        · obtain ⟨-, rfl⟩ := some_e h
          exact g
    · obtain ⟨-, h⟩ := ck_e h
      obtain ⟨-, h⟩ := ck_e h
      obtain ⟨-, h⟩ := ck_e h
      obtain ⟨-, rfl⟩ := some_e h
      exact g
  · obtain ⟨-, h⟩ := ck_e h
    obtain ⟨-, h⟩ := ck_e h
    obtain ⟨-, h⟩ := ck_e h
    obtain ⟨-, rfl⟩ := some_e h
    exact g

abbrev ml_X8_work : List (Nat × Option Nat × Option Nat) := [(0, some 0, some 7), (0, some 0, some 8), (0, some 0, some 10), (4, none, some 2), (4, none, some 3), (7, none, some 8), (7, none, some 9), (7, none, some 10), (12, some 0, some 0), (12, some 0, some 1), (12, some 0, some 6), (13, some 0, none), (13, some 1, none), (13, some 2, none), (13, some 3, none), (14, some 0, some 0), (14, some 0, some 1), (15, some 0, none), (16, some 0, none), (16, some 1, none), (16, some 2, none), (17, some 0, none), (17, some 1, none), (19, none, none)]
theorem md_X8_work_53 {r : Int32} {Z : HS} (cs : List (Nat × Nat)) (N : Nat)  : ∀ (n : Nat) (v1 : Int32) (S : HS), f_X8_work_53 cs N n v1 S = some (r, Z) → Md ml_X8_work S Z := by
  intro n
  induction n with
  | zero => intro v1 S h; cases h
  | succ n ih =>
    intro v1 S h
    rw [f_X8_work_53] at h
    have g := Md.rf ml_X8_work S
    obtain ⟨-, h⟩ := ck_e h
    rcases if_c h with ⟨-, h⟩ | ⟨-, h⟩
    · obtain ⟨S3, e9, h⟩ := lt_e h
      have g := g.ui e9 rfl
      obtain ⟨-, rfl⟩ := some_e h
      exact g
    · obtain ⟨-, h⟩ := ck_e h
      obtain ⟨-, h⟩ := ck_e h
      obtain ⟨-, h⟩ := ck_e h
      rcases if_c h with ⟨-, h⟩ | ⟨-, h⟩
      · obtain ⟨-, h⟩ := ck_e h
        rcases if_c h with ⟨-, h⟩ | ⟨-, h⟩
        · obtain ⟨x13, -, h⟩ := lt_e h
          exact g.trans (ih _ _ h)
        · obtain ⟨-, h⟩ := ck_e h
          obtain ⟨S16, e9, h⟩ := lt_e h
          have g := g.ui e9 rfl
          obtain ⟨x18, -, h⟩ := lt_e h
          exact g.trans (ih _ _ h)
      · obtain ⟨x9, -, h⟩ := lt_e h
        exact g.trans (ih _ _ h)
theorem md_X8_work_17 {r : Int32} {Z : HS} (cs : List (Nat × Nat)) (N : Nat)  : ∀ (n : Nat) (v1 : Int32) (S : HS), f_X8_work_17 cs N n v1 S = some (r, Z) → Md ml_X8_work S Z := by
  intro n
  induction n with
  | zero => intro v1 S h; cases h
  | succ n ih =>
    intro v1 S h
    rw [f_X8_work_17] at h
    have g := Md.rf ml_X8_work S
    obtain ⟨-, h⟩ := ck_e h
    rcases if_c h with ⟨-, h⟩ | ⟨-, h⟩
    · obtain ⟨S3, e9, h⟩ := lt_e h
      have g := g.ui e9 rfl
      exact g.trans (md_X8_work_53 _ _ _ _ _ h)
    · obtain ⟨-, h⟩ := ck_e h
      obtain ⟨-, h⟩ := ck_e h
      obtain ⟨r7, S8, e9, h⟩ := ob_e h
      have g := g.trans ((md_X8_workAsPlanned _ _ _ _ _ _ e9).mono (by decide))
      obtain ⟨x10, -, h⟩ := lt_e h
      exact g.trans (ih _ _ h)
theorem md_X8_work (cs : List (Nat × Nat)) (N : Nat)  (S : HS) (r : Int32) (Z : HS) (h : f_X8_work cs N  S = some (r, Z)) : Md ml_X8_work S Z := by
  unfold f_X8_work at h
  have g := Md.rf ml_X8_work S
  obtain ⟨-, h⟩ := ck_e h
  rcases if_c h with ⟨-, h⟩ | ⟨-, h⟩
  · obtain ⟨r3, S4, e9, h⟩ := ob_e h
    have g := g.trans ((md_X8_bringPlanUpToDate _ _ _ _ _ e9).mono (by decide))
    exact g.trans (md_X8_work_17 _ _ _ _ _ h)
  · obtain ⟨-, rfl⟩ := some_e h
    exact g

abbrev ml_X1_readInto : List (Nat × Option Nat × Option Nat) := [(8, some 0, some 1), (8, some 0, some 2), (8, some 0, some 3), (9, some 0, some 1), (9, some 0, some 2), (9, some 0, some 3), (9, some 0, some 5), (11, some 0, none), (21, none, none), (23, none, none), (24, none, none)]
theorem md_X1_readInto_28 {r : Int32} {Z : HS} (cs : List (Nat × Nat)) (N : Nat)  : ∀ (n : Nat) (k1 : Nat) (v2 : Int32) (S : HS), f_X1_readInto_28 cs N n k1 v2 S = some (r, Z) → Md ml_X1_readInto S Z := by
  intro n
  induction n with
  | zero => intro k1 v2 S h; cases h
  | succ n ih =>
    intro k1 v2 S h
    rw [f_X1_readInto_28] at h
    have g := Md.rf ml_X1_readInto S
    rcases if_c h with ⟨-, h⟩ | ⟨-, h⟩
    · obtain ⟨-, rfl⟩ := some_e h
      exact g
    · obtain ⟨-, h⟩ := ck_e h
      obtain ⟨-, h⟩ := ck_e h
      rcases if_c h with ⟨-, h⟩ | ⟨-, h⟩
      · obtain ⟨-, rfl⟩ := some_e h
        exact g
      · obtain ⟨r5, S6, e9, h⟩ := ob_e h
        have g := g.trans ((md_X1_readLine _ _ _ _ _ _ e9).mono (by decide))
        rcases if_c h with ⟨-, h⟩ | ⟨-, h⟩
        · obtain ⟨-, rfl⟩ := some_e h
          exact g
        · obtain ⟨x9, -, h⟩ := lt_e h
          exact g.trans (ih _ _ _ h)
theorem md_X1_readInto (cs : List (Nat × Nat)) (N : Nat) (a1 : Nat) (S : HS) (r : Int32) (Z : HS) (h : f_X1_readInto cs N a1 S = some (r, Z)) : Md ml_X1_readInto S Z := by
  unfold f_X1_readInto at h
  have g := Md.rf ml_X1_readInto S
  obtain ⟨-, h⟩ := ck_e h
  obtain ⟨S2, e9, h⟩ := lt_e h
  have g := g.ui e9 rfl
  obtain ⟨S4, e9, h⟩ := lt_e h
  have g := g.ui e9 rfl
  obtain ⟨S6, e9, h⟩ := lt_e h
  have g := g.ui e9 rfl
  obtain ⟨-, h⟩ := ck_e h
  obtain ⟨r9, S10, e9, h⟩ := ob_e h
  have g := g.trans ((md_X5_forget _ _ _ _ _ _ e9).mono (by decide))
  obtain ⟨-, h⟩ := ck_e h
  obtain ⟨r13, S14, e9, h⟩ := ob_e h
  have g := g.trans ((md_X7_rewind _ _ _ _ _ e9).mono (by decide))
  exact g.trans (md_X1_readInto_28 _ _ _ _ _ _ h)

abbrev ml_X8_custom : List (Nat × Option Nat × Option Nat) := [(0, some 0, some 5), (0, some 0, some 6), (0, some 0, some 7), (8, some 0, some 1), (8, some 0, some 2), (8, some 0, some 3), (9, some 0, some 0), (9, some 0, some 1), (9, some 0, some 2), (9, some 0, some 3), (9, some 0, some 5), (11, some 0, none), (21, none, none), (23, none, none), (24, none, none)]
theorem md_X8_custom (cs : List (Nat × Nat)) (N : Nat)  (S : HS) (r : Int32) (Z : HS) (h : f_X8_custom cs N  S = some (r, Z)) : Md ml_X8_custom S Z := by
  unfold f_X8_custom at h
  have g := Md.rf ml_X8_custom S
  obtain ⟨-, h⟩ := ck_e h
  obtain ⟨-, h⟩ := ck_e h
  obtain ⟨r3, S4, e9, h⟩ := ob_e h
  have g := g.trans ((md_X1_readInto _ _ _ _ _ _ e9).mono (by decide))
  obtain ⟨-, h⟩ := ck_e h
  obtain ⟨S7, e9, h⟩ := lt_e h
  have g := g.ui e9 rfl
  rcases if_c h with ⟨-, h⟩ | ⟨-, h⟩
  · obtain ⟨-, rfl⟩ := some_e h
    exact g
  · obtain ⟨-, h⟩ := ck_e h
    obtain ⟨S11, e9, h⟩ := lt_e h
    have g := g.ui e9 rfl
    obtain ⟨-, h⟩ := ck_e h
    obtain ⟨S14, e9, h⟩ := lt_e h
    have g := g.ui e9 rfl
    obtain ⟨S16, e9, h⟩ := lt_e h
    have g := g.ui e9 rfl
    obtain ⟨-, rfl⟩ := some_e h
    exact g
