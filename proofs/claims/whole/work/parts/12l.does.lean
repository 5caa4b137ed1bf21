/-! ===== best: the other object lays orders ===== -/
def skp (hr : Nat → Nat) : Nat → Nat → Nat → Nat × Nat
  | 0, w, fr => (w, fr)
  | m + 1, w, fr => if fr = 0 then skp hr m (w + 1) (hr (w + 1)) else (w, fr)
def fin1 (hr : Nat → Nat) : Nat → Nat → Nat → Nat → Option (Nat × Nat)
  | 0, w, fr, rest => if rest ≤ fr then some (w, fr - rest) else none
  | m + 1, w, fr, rest => if rest ≤ fr then some (w, fr - rest) else fin1 hr m (w + 1) (hr (w + 1)) (rest - fr)
def okR (ok : Nat → Bool) : Nat → Nat → Bool
  | 0, _ => true
  | n + 1, v => ok v && okR ok n (v + 1)
def mlay (hr : Nat → Nat) (ok : Nat → Bool) (due w fr rest : Nat) : Option (Nat × Nat) := match fin1 hr (51 - (skp hr (51 - w) w fr).1) (skp hr (51 - w) w fr).1 (skp hr (51 - w) w fr).2 rest with
  | none => none
  | some b => if b.1 ≤ due ∧ okR ok (b.1 + 1 - (skp hr (51 - w) w fr).1) (skp hr (51 - w) w fr).1 = true then some b else none
theorem skp_rg {hr : Nat → Nat} : ∀ (m w fr : Nat), (∀ u, u ≤ w + m → hr u ≤ 99) → fr ≤ 99 → w ≤ (skp hr m w fr).1 ∧ (skp hr m w fr).1 ≤ w + m ∧ (skp hr m w fr).2 ≤ 99
  | 0, w, fr, _, h2 => ⟨Nat.le_refl _, Nat.le_refl _, h2⟩
  | m + 1, w, fr, h1, h2 => by
    unfold skp
    by_cases q : fr = 0
    · rw [if_pos q]
      have := skp_rg m (w + 1) (hr (w + 1)) (fun u hu => h1 u (by omega)) (h1 _ (by omega))
      omega
    · rw [if_neg q]
      exact ⟨Nat.le_refl _, by simp, h2⟩
theorem fin_rg {hr : Nat → Nat} : ∀ (m w fr rest : Nat) (b : Nat × Nat), (∀ u, u ≤ w + m → hr u ≤ 99) → fr ≤ 99 → fin1 hr m w fr rest = some b → w ≤ b.1 ∧ b.1 ≤ w + m ∧ b.2 ≤ 99
  | 0, w, fr, rest, b, _, h2, h => by
    unfold fin1 at h
    by_cases q : rest ≤ fr
    · rw [if_pos q] at h
      injection h with h
      subst h
      exact ⟨Nat.le_refl _, Nat.le_refl _, by simp; omega⟩
    · rw [if_neg q] at h; cases h
  | m + 1, w, fr, rest, b, h1, h2, h => by
    unfold fin1 at h
    by_cases q : rest ≤ fr
    · rw [if_pos q] at h
      injection h with h
      subst h
      exact ⟨Nat.le_refl _, by simp, by simp; omega⟩
    · rw [if_neg q] at h
      have := fin_rg m (w + 1) (hr (w + 1)) (rest - fr) b (fun u hu => h1 u (by omega)) (h1 _ (by omega)) h
      omega
theorem fin_ge {hr : Nat → Nat} : ∀ (m w fr rest : Nat) (b : Nat × Nat), fin1 hr m w fr rest = some b → w ≤ b.1
  | 0, w, fr, rest, b, h => by
    unfold fin1 at h
    by_cases q : rest ≤ fr
    · rw [if_pos q] at h; injection h with h; subst h; exact Nat.le_refl _
    · rw [if_neg q] at h; cases h
  | m + 1, w, fr, rest, b, h => by
    unfold fin1 at h
    by_cases q : rest ≤ fr
    · rw [if_pos q] at h; injection h with h; subst h; exact Nat.le_refl _
    · rw [if_neg q] at h
      have := fin_ge m _ _ _ b h
      omega
theorem skp_ge {hr : Nat → Nat} : ∀ (m w fr : Nat), w ≤ (skp hr m w fr).1
  | 0, w, fr => Nat.le_refl _
  | m + 1, w, fr => by
    unfold skp
    by_cases q : fr = 0
    · rw [if_pos q]
      have := skp_ge (hr := hr) m (w + 1) (hr (w + 1))
      omega
    · rw [if_neg q]; exact Nat.le_refl _
def fa (ok : Nat → Bool) (due w : Nat) : Option (Nat × Nat) → Option (Nat × Nat)
  | none => none
  | some b => if b.1 ≤ due ∧ okR ok (b.1 + 1 - w) w = true then some b else none
theorem fa_s (ok : Nat → Bool) (due w : Nat) (b : Nat × Nat) : fa ok due w (some b) = if b.1 ≤ due ∧ okR ok (b.1 + 1 - w) w = true then some b else none := rfl
theorem lay_a {hr : Nat → Nat} {ok : Nat → Bool} {due : Nat} (hd : due ≤ 51) : ∀ (m w fr rest : Nat), w + m = 51 → lay1 hr ok (due + 1 - w) w fr rest true = fa ok due w (fin1 hr m w fr rest)
  | m, w, fr, rest, hm => by
    by_cases hw : w ≤ due
    · obtain ⟨k, hk⟩ : ∃ k, due + 1 - w = k + 1 := ⟨due - w, by omega⟩
      rw [hk]
      unfold lay1
      by_cases q : ok w = true
      · rw [if_neg (by simp [q])]
        by_cases q2 : rest ≤ fr
        · rw [if_pos q2]
          have e : fin1 hr m w fr rest = some (w, fr - rest) := by
            cases m with
            | zero => unfold fin1; rw [if_pos q2]
            | succ m => unfold fin1; rw [if_pos q2]
          rw [e, fa_s, if_pos ⟨hw, by show okR ok (w + 1 - w) w = true; rw [show w + 1 - w = 1 by omega]; show (ok w && true) = true; rw [q]; rfl⟩]
        · rw [if_neg q2]
          cases m with
          | zero =>
            have hk0 : k = 0 := by omega
            subst hk0
            unfold fin1
            rw [if_neg q2]
            rfl
          | succ m =>
            have ih := lay_a (hr := hr) (ok := ok) hd m (w + 1) (hr (w + 1)) (rest - fr) (by omega)
            rw [show due + 1 - (w + 1) = k by omega] at ih
            show lay1 hr ok k (w + 1) (hr (w + 1)) (rest - fr) (true || decide (0 < fr)) = _
            have e0 : fin1 hr (m + 1) w fr rest = fin1 hr m (w + 1) (hr (w + 1)) (rest - fr) := by
              show (if rest ≤ fr then some (w, fr - rest) else fin1 hr m (w + 1) (hr (w + 1)) (rest - fr)) = _
              rw [if_neg q2]
            rw [Bool.true_or, ih, e0]
            cases hf : fin1 hr m (w + 1) (hr (w + 1)) (rest - fr) with
            | none => rfl
            | some b =>
              have hge := fin_ge _ _ _ _ b hf
              have e : okR ok (b.1 + 1 - w) w = okR ok (b.1 + 1 - (w + 1)) (w + 1) := by
                rw [show b.1 + 1 - w = (b.1 + 1 - (w + 1)) + 1 by omega]
                show (ok w && okR ok (b.1 + 1 - (w + 1)) (w + 1)) = _
                rw [q, Bool.true_and]
              rw [fa_s, fa_s, e]
      · rw [if_pos (by simp [q])]
        cases hf : fin1 hr m w fr rest with
        | none => rfl
        | some b =>
          have hge := fin_ge _ _ _ _ b hf
          rw [fa_s, if_neg]
          rintro ⟨-, x⟩
          rw [show b.1 + 1 - w = (b.1 - w) + 1 by omega] at x
          unfold okR at x
          rw [Bool.and_eq_true] at x
          exact q x.1
    · rw [show due + 1 - w = 0 by omega]
      cases hf : fin1 hr m w fr rest with
      | none => rfl
      | some b =>
        have hge := fin_ge _ _ _ _ b hf
        unfold lay1
        rw [fa_s, if_neg (fun x => hw (by omega))]
theorem lay_bg {hr : Nat → Nat} {ok : Nat → Bool} (k w fr rest : Nat) (h : 0 < fr) : lay1 hr ok k w fr rest false = lay1 hr ok k w fr rest true := by
  cases k with
  | zero => rfl
  | succ k =>
    unfold lay1
    rw [decide_eq_true h]
    rfl
theorem lay_b {hr : Nat → Nat} {ok : Nat → Bool} {due : Nat} (hd : due ≤ 51) : ∀ (m w fr rest : Nat), w + m = 51 → 1 ≤ rest → lay1 hr ok (due + 1 - w) w fr rest false = fa ok due (skp hr m w fr).1 (fin1 hr (51 - (skp hr m w fr).1) (skp hr m w fr).1 (skp hr m w fr).2 rest)
  | m, w, fr, rest, hm, hr1 => by
    by_cases q : fr = 0
    · subst q
      by_cases hw : w ≤ due
      · obtain ⟨k, hk⟩ : ∃ k, due + 1 - w = k + 1 := ⟨due - w, by omega⟩
        rw [hk]
        unfold lay1
        rw [if_neg (by simp), if_neg (by omega)]
        cases m with
        | zero =>
          have hk0 : k = 0 := by omega
          subst hk0
          show none = fa ok due w (fin1 hr (51 - w) w 0 rest)
          rw [show 51 - w = 0 by omega]
          unfold fin1
          rw [if_neg (by omega)]
          rfl
        | succ m =>
          have ih := lay_b (hr := hr) (ok := ok) hd m (w + 1) (hr (w + 1)) rest (by omega) hr1
          rw [show due + 1 - (w + 1) = k by omega] at ih
          show lay1 hr ok k (w + 1) (hr (w + 1)) (rest - 0) (false || decide (0 < 0)) = _
          rw [show rest - 0 = rest by omega, show (false || decide (0 < 0)) = false by decide, ih]
          have e0 : skp hr (m + 1) w 0 = skp hr m (w + 1) (hr (w + 1)) := by
            show (if (0 : Nat) = 0 then skp hr m (w + 1) (hr (w + 1)) else (w, 0)) = _
            rw [if_pos rfl]
          rw [e0]
      · rw [show due + 1 - w = 0 by omega]
        have hge := skp_ge (hr := hr) m w 0
        cases hf : fin1 hr (51 - (skp hr m w 0).1) (skp hr m w 0).1 (skp hr m w 0).2 rest with
        | none => rfl
        | some b =>
          have hge2 := fin_ge _ _ _ _ b hf
          unfold lay1
          rw [fa_s, if_neg (fun x => hw (by omega))]
    · have e : skp hr m w fr = (w, fr) := by
        cases m with
        | zero => rfl
        | succ m => unfold skp; rw [if_neg q]
      rw [lay_bg _ _ _ _ (by omega), e, lay_a hd m w fr rest hm]
      show _ = fa ok due w (fin1 hr (51 - w) w fr rest)
      rw [show 51 - w = m by omega]
abbrev okD (D : Pb) (f i : Nat) : Nat → Bool := fun w => decide (D 9 (7 * f + i) w = 1)
abbrev mlD (D : Pb) (f i : Nat) (b : Nat × Nat) : Option (Nat × Nat) := mlay (D 2 f) (okD D f i) (D 5 i 0) b.1 b.2 (D 3 f i)
theorem mlD_eq {D : Pb} {f i : Nat} {b : Nat × Nat} (hb : b.1 ≤ 51) (h5 : D 5 i 0 ≤ 51) (h3 : 1 ≤ D 3 f i) : mlD D f i b = layD D f i b := by
  unfold layD
  rw [lay_b h5 (51 - b.1) b.1 b.2 (D 3 f i) (by omega) h3]
  unfold mlD mlay fa
  rfl
theorem mlD_rg {D : Pb} (hD : dOk D) {f i : Nat} (hf : f < 4) {b b' : Nat × Nat} (hb : b.1 ≤ 51) (hb2 : b.2 ≤ 99) (h : mlD D f i b = some b') : b.1 ≤ b'.1 ∧ b'.1 ≤ 51 ∧ b'.2 ≤ 99 := by
  have hh : ∀ u, u ≤ 51 → D 2 f u ≤ 99 := fun u hu => hD.2.2.2.2.1 f u hf (by omega)
  have s := skp_rg (hr := D 2 f) (51 - b.1) b.1 b.2 (fun u hu => hh u (by omega)) hb2
  unfold mlD mlay at h
  cases hq : fin1 (D 2 f) (51 - (skp (D 2 f) (51 - b.1) b.1 b.2).1) (skp (D 2 f) (51 - b.1) b.1 b.2).1 (skp (D 2 f) (51 - b.1) b.1 b.2).2 (D 3 f i) with
  | none => rw [hq] at h; cases h
  | some c =>
    rw [hq] at h
    have r := fin_rg _ _ _ _ c (fun u hu => hh u (by omega)) s.2.2 hq
    dsimp only at h
    split at h
    · injection h with h
      subst h
      omega
    · cases h
/-- all of a row -/
def mdo (D : Pb) (f : Nat) : List Nat → Nat → Nat × Nat → Bool
  | [], _, _ => true
  | i :: l, sum, b => if sum + D 7 i 0 ≤ D 4 f 0 then (match mlD D f i b with
    | none => false
    | some b' => mdo D f l (sum + D 7 i 0) b') else false
theorem mdo_iff {D : Pb} (hD : dOk D) {f : Nat} (hf : f < 4) : ∀ (l : List Nat) (sum : Nat) (b : Nat × Nat), (∀ i, i ∈ l → i < D 0 0 1 ∧ D 8 i 0 = 1) → sum ≤ D 4 f 0 → b.1 ≤ 51 → b.2 ≤ 99 → (mdo D f l sum b = true ↔ sum + silD D l ≤ D 4 f 0 ∧ (runD D f l b).isSome = true)
  | [], sum, b, _, h, _, _ => by simp [mdo, silD, runD, h]
  | i :: l, sum, b, hm, h, hb, hb2 => by
    have e : silD D (i :: l) = D 7 i 0 + silD D l := by unfold silD; rw [List.map_cons, List.sum_cons]
    have hi := hm i List.mem_cons_self
    have h5 := (hD.2.2.1 i hi.1).2.1
    have h3 := (hD.2.2.2.1 f i hf hi.1 hi.2).1
    have ml := mlD_eq hb h5 h3
    unfold mdo runD
    rw [e, ml]
    by_cases q : sum + D 7 i 0 ≤ D 4 f 0
    · rw [if_pos q]
      cases hq : layD D f i b with
      | none => simp
      | some b' =>
        have rg := mlD_rg hD hf hb hb2 (ml.trans hq)
        have ih := mdo_iff hD hf l (sum + D 7 i 0) b' (fun j hj => hm j (List.mem_cons_of_mem _ hj)) q rg.2.1 rg.2.2
        dsimp only
        rw [ih, Nat.add_assoc]
    · rw [if_neg q]
      constructor
      · intro x; cases x
      · rintro ⟨x, -⟩; omega
