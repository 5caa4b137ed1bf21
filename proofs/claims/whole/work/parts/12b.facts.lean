/-! ===== best: what the cells say ===== -/
/-- the relation without the plan -/
def Iw (S : HS) : Prop := IvA S ∧ IvF S ∧ IvH S ∧ IvP S ∧ IvO S ∧ IvR S ∧ IvT S ∧ IvE S
/-- the places that are scratch -/
abbrev mlS : List (Nat × Option Nat × Option Nat) := [(12, none, none), (13, none, none), (14, none, none), (15, none, none), (16, none, none), (17, none, none), (19, none, none), (30, some 0, some 36), (30, some 0, some 42), (30, some 0, some 43), (31, some 20, none), (31, some 21, none), (31, some 22, none), (31, some 23, none), (31, some 24, none), (32, some 1, none)]
theorem Iw.md {M : List (Nat × Option Nat × Option Nat)} {S Z : HS} (h : Iw S) (m : Md M S Z) (hM : ∀ c k j, pm mlS c k j = false → pm M c k j = false) : Iw Z ∧ dC Z = dC S := by
  have hm : Md mlS S Z := fun c k j hc => m c k j (hM c k j hc)
  obtain ⟨hA, hF, hH, hP, hO, hR, hT, hE⟩ := h
  exact ⟨⟨IvA_md hm rfl rfl rfl rfl rfl rfl hA, IvF_md hm (fun _ => rfl) (fun _ => rfl) (fun _ => rfl) (fun _ => rfl) (fun _ => rfl) hF, IvH_md hm (fun _ _ => rfl) (fun _ => rfl) hH, IvP_md hm (fun _ _ => rfl) (fun _ => rfl) (fun _ => rfl) (fun _ => rfl) hP, IvO_md hm rfl (fun _ _ => rfl) (pm_r (by decide)) hO, IvR_md hm rfl rfl (fun _ _ => rfl) (fun _ _ => rfl) (fun _ _ => rfl) (fun _ => rfl) (fun _ => rfl) (fun _ => rfl) hR, IvT_md hm rfl rfl (fun _ => rfl) (fun _ => rfl) hT, IvE_md hm rfl rfl rfl rfl hE⟩, dC_md hm rfl rfl rfl (fun _ => rfl) (fun _ _ => rfl) (fun _ _ => rfl) (fun _ _ => rfl) (fun _ _ => rfl) (fun _ _ => rfl)⟩
/-- all that is kept of the problem -/
def Fx (S : HS) (D : Pb) : Prop := Iw S ∧ dC S = D
theorem Fx.md {S Z : HS} {D : Pb} (h : Fx S D) (m : Md mlS S Z) : Fx Z D := by
  obtain ⟨a, b⟩ := Iw.md h.1 m (fun _ _ _ h => h)
  exact ⟨a, b.trans h.2⟩
theorem Fx.sub {M : List (Nat × Option Nat × Option Nat)} {S Z : HS} {D : Pb} (h : Fx S D) (m : Md M S Z) (hM : M.all (fun q => mlS.contains q || mlS.contains (q.1, none, none)) = true) : Fx Z D := by
  refine h.md (fun c k j hc => m c k j ?_)
  unfold pm at hc ⊢
  rw [List.any_eq_false] at hc ⊢
  intro q hq
  have := List.all_eq_true.mp hM q hq
  rw [Bool.or_eq_true, List.contains_iff_mem, List.contains_iff_mem] at this
  rcases this with x | x
  · exact hc q x
  · have := hc _ x
    simp at this
    intro y
    simp at y
    exact this y.1
theorem Fx.a {S : HS} {D : Pb} (h : Fx S D) : gi S 0 0 8 = nI (D 0 0 0) ∧ gi S 30 0 0 = nI (D 0 0 0) ∧ gi S 0 0 9 = nI (D 0 0 1) ∧ gi S 30 0 1 = nI (D 0 0 1) ∧ D 0 0 0 ≤ 51 ∧ D 0 0 1 ≤ 7 := by
  obtain ⟨⟨hA, -⟩, rfl⟩ := h
  obtain ⟨a1, a2, a3, a4, -⟩ := hA
  have e0 : dC S 0 0 0 = nat (gi S 0 0 8) := rfl
  have e1 : dC S 0 0 1 = nat (gi S 0 0 9) := rfl
  rw [e0, e1, a1, a3]
  have b := nat_rg a2; have c := nat_rg a4
  exact ⟨b.1, b.1, c.1, c.1, by omega, by omega⟩
theorem Fx.f {S : HS} {D : Pb} (h : Fx S D) {f : Nat} (hf : f < 4) : gi S 4 f 0 = nI f ∧ gi S 4 f 2 = nI (D 4 f 0) ∧ gi S 31 1 f = nI (D 4 f 0) ∧ D 4 f 0 ≤ 99999 := by
  obtain ⟨⟨-, hF, -⟩, rfl⟩ := h
  obtain ⟨a1, a2, a3, a4⟩ := hF f hf
  have e : dC S 4 f 0 = nat (gi S 4 f 2) := rfl
  rw [e, a2]
  have b := nat_rg a3
  exact ⟨a1, b.1, b.1, by omega⟩
theorem Fx.h {S : HS} {D : Pb} (h : Fx S D) {f w : Nat} (hf : f < 4) (hw : w < 52) : gi S 5 f w = nI (D 2 f w) ∧ gi S 31 0 (52 * f + w) = nI (D 2 f w) ∧ D 2 f w ≤ 99 := by
  obtain ⟨⟨-, -, hH, -⟩, rfl⟩ := h
  obtain ⟨a1, a2⟩ := hH f hf w hw
  have e : dC S 2 f w = nat (gi S 5 f w) := rfl
  rw [e, a1]
  have b := nat_rg a2
  exact ⟨b.1, b.1, by omega⟩
theorem Fx.n {S : HS} {D : Pb} (h : Fx S D) {i : Nat} (hi : i < 7) : gi S 7 i 0 = nI i := (h.1.2.2.2.2.1 i hi).1
theorem Fx.oo {S : HS} {D : Pb} (h : Fx S D) {i : Nat} (hi : i < D 0 0 1) : i < 7 ∧ OrdOk S i := by
  have ha := h.a
  have h7 : i < 7 := by omega
  refine ⟨h7, (h.1.2.2.2.2.1 i h7).2.1 ?_⟩
  rw [ha.2.2.2.1, nI_toInt (by omega)]
  omega
theorem Fx.o {S : HS} {D : Pb} (h : Fx S D) {i : Nat} (hi : i < D 0 0 1) : (gi S 7 i 3 = nI (D 5 i 0) ∧ gi S 31 8 i = nI (D 5 i 0) ∧ D 5 i 0 ≤ 51) ∧ (gi S 7 i 4 = nI (D 6 i 0) ∧ gi S 31 9 i = nI (D 6 i 0) ∧ D 6 i 0 ≤ 9999) ∧ (gi S 7 i 7 = nI (D 7 i 0) ∧ gi S 31 12 i = nI (D 7 i 0) ∧ D 7 i 0 ≤ 4000) ∧ (gi S 7 i 8 = gi S 31 13 i ∧ (gi S 31 13 i = 0 ↔ D 8 i 0 = 1)) := by
  obtain ⟨h7, ho⟩ := h.oo hi
  obtain ⟨-, hD⟩ := h
  obtain ⟨o1, o2, o3, o4, o5, o6, o7, o8, o9, o10, o11⟩ := ho
  subst hD
  have e5 : dC S 5 i 0 = nat (gi S 7 i 3) := rfl
  have e6 : dC S 6 i 0 = nat (gi S 7 i 4) := rfl
  have e7 : dC S 7 i 0 = nat (gi S 7 i 7) := rfl
  have e8 : dC S 8 i 0 = if gi S 7 i 8 = 0 then 1 else 0 := rfl
  rw [e5, e6, e7, e8, o3.1, o4.1, o7.1, o8.1]
  have b3 := nat_rg o3.2
  have b4 := nat_rg (x := gi S 31 9 i) (hi := 9999) ⟨by have := o4.2.1; omega, o4.2.2⟩
  have b7 := nat_rg o7.2
  refine ⟨⟨b3.1, b3.1, by omega⟩, ⟨b4.1, b4.1, by omega⟩, ⟨b7.1, b7.1, by omega⟩, rfl, ?_⟩
  by_cases q : gi S 31 13 i = 0
  · simp [q]
  · simp [q]
theorem Fx.l {S : HS} {D : Pb} (h : Fx S D) {f i : Nat} (hf : f < 4) (hi : i < D 0 0 1) (N : Nat) : f_X6_hoursLeftFor csF N i (nI f) S = some (nI (D 3 f i), S) ∧ f_X9_left csF N (nI f) (nI i) S = some (nI (D 3 f i), S) ∧ D 3 f i ≤ 6000 ∧ (D 8 i 0 = 1 → 1 ≤ D 3 f i) := by
  have ho8 := (h.o hi).2.2.2
  obtain ⟨h7, ho⟩ := h.oo hi
  obtain ⟨-, hD⟩ := h
  obtain ⟨o1, o2, o3, o4, o5, o6, o7, o8, o9, o10, o11, o12⟩ := ho
  subst hD
  have e3 : dC S 3 f i = if gi S 7 i 10 = nI f then nat (gi S 7 i 6) - nat (gi S 7 i 9) else nat (gi S 7 i 6) := rfl
  have b6 := nat_rg (x := gi S 31 11 i) (hi := 6000) ⟨by have := o6.2.1; omega, o6.2.2⟩
  have b9 := nat_rg o11
  have w6 : 1 ≤ nat (gi S 31 11 i) := by have := o6.2.1; unfold nat; omega
  have hle : nat (gi S 31 14 i) ≤ nat (gi S 31 11 i) := by
    have q : (gi S 31 14 i).toInt ≤ (gi S 31 11 i).toInt := o11.2
    unfold nat
    omega
  have sub : gi S 31 11 i - gi S 31 14 i = nI (nat (gi S 31 11 i) - nat (gi S 31 14 i)) := by
    rw [i_eq, nI_toInt (by omega), i_sub (by have := o11.1; have := o11.2; have := o6.2.1; omega) (by have := o11.1; have := o6.2.2; omega)]
    have y1 : 0 ≤ (gi S 31 14 i).toInt := o11.1
    have y2 : (gi S 31 14 i).toInt ≤ (gi S 31 11 i).toInt := o11.2
    unfold nat
    omega
  have hlt : gi S 31 13 i = 0 → nat (gi S 31 14 i) < nat (gi S 31 11 i) := fun x => by
    have := o12 x
    unfold rg at this
    unfold nat
    omega
  have m7 : mc csF 7 i = true := mF (by decide) h7
  rw [e3, o10.1, o6.1, o9]
  refine ⟨?_, ?_, ?_, ?_⟩
  · rw [f_X6_hoursLeftFor, m7, ck_t, o10.1, o6.1, o9]
    by_cases q : gi S 31 15 i = nI f
    · rw [if_pos q, if_pos q, sub]
    · rw [if_neg q, if_neg q, ← b6.1]
  · rw [f_X9_left, mF (by decide) (by decide), ck_t, mF (by decide) (by decide), ck_t, inb_k h7 (by decide), ck_t, cl_k (by omega), mF (show 31 < 33 by decide) (show 11 < cnt 31 by decide), mF (show 31 < 33 by decide) (show 14 < cnt 31 by decide)]
    simp only [ck_t]
    by_cases q : gi S 31 15 i = nI f
    · rw [if_pos q, if_pos q, sub]
    · rw [if_neg q, if_neg q, ← b6.1]
  · split <;> omega
  · intro x
    have := hlt (ho8.2.mpr x)
    split <;> omega
theorem Fx.r {S : HS} {D : Pb} (h : Fx S D) : rkC S < 2 ∧ (gi S 0 0 5).toNatClampNeg = rkC S := by
  obtain ⟨⟨-, -, -, -, -, hR, -⟩, -⟩ := h
  unfold rkC
  rcases hR.1 with ⟨x, -⟩ | ⟨x, -⟩ <;> rw [x] <;> exact ⟨by decide, by decide⟩
theorem Fx.k {S : HS} {D : Pb} (h : Fx S D) {f i w : Nat} (hf : f < 4) (hi : i < D 0 0 1) (hw : w < 52) (N : Nat) : f_X5_allow csF N (rkC S) (nI f) (gi S 7 i 1) (nI w) S = some (if D 9 (7 * f + i) w = 1 then 1 else 0, S) ∧ f_X9_isAllowed csF N (nI f) (gi S 31 6 i) (nI w) S = some (if D 9 (7 * f + i) w = 1 then 1 else 0, S) := by
  obtain ⟨h7, ho⟩ := h.oo hi
  have hr := h.r
  obtain ⟨⟨-, -, -, -, -, hR, -⟩, hD⟩ := h
  obtain ⟨o1, -⟩ := ho
  subst hD
  obtain ⟨b1, b2⟩ := nat_rg o1.2
  have hp : nat (gi S 31 6 i) < 6 := by omega
  have e9 : dC S 9 (7 * f + i) w = if okC S ((7 * f + i) / 7) (nat (gi S 7 ((7 * f + i) % 7) 1) % 6) w = true then 1 else 0 := rfl
  rw [show (7 * f + i) / 7 = f by omega, show (7 * f + i) % 7 = i by omega, o1.1, Nat.mod_eq_of_lt hp] at e9
  have ek : okC S f (nat (gi S 31 6 i)) w = okK S (rkC S) f (nat (gi S 31 6 i)) w := rfl
  rw [e9, ek]
  have e1 := X5_allow_eq N S hr.1 hf hp hw
  have e2 := X9_isAllowed_eq N S hf hp hw
  rw [← b1] at e1 e2
  rw [← ok_eq hR hf hp hw] at e2
  rw [o1.1, e1, e2]
  by_cases q : okK S (rkC S) f (nat (gi S 31 6 i)) w = true
  · simp [q]
  · simp [q]
theorem Fx.ok {S : HS} {D : Pb} (h : Fx S D) : dOk D := by
  have ha := h.a
  refine ⟨ha.2.2.2.2.2, ha.2.2.2.2.1, fun i hi => ?_, fun f i hf hi h8 => ?_, fun f w hf hw => (h.h hf hw).2.2, fun f hf => (h.f hf).2.2.2⟩
  · have := h.o hi
    exact ⟨this.2.1.2.2, this.1.2.2, this.2.2.1.2.2⟩
  · have := h.l hf hi 0
    exact ⟨this.2.2.2 h8, this.2.2.1⟩
