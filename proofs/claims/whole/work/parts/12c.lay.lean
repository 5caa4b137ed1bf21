/-! ===== best: an order is laid ===== -/
theorem lay1_rg {hr : Nat → Nat} {ok : Nat → Bool} : ∀ (m v has toDo : Nat) (bg : Bool) (b : Nat × Nat), lay1 hr ok m v has toDo bg = some b → (∀ u, v ≤ u → u < v + m → hr u ≤ 99) → has ≤ 99 → v ≤ b.1 ∧ b.1 < v + m ∧ b.2 ≤ 99
  | 0, v, has, toDo, bg, b, h, _, _ => by unfold lay1 at h; cases h
  | m + 1, v, has, toDo, bg, b, h, h1, h2 => by
    unfold lay1 at h
    by_cases q1 : ((bg || decide (0 < has)) && !ok v) = true
    · rw [if_pos q1] at h; cases h
    · rw [if_neg q1] at h
      by_cases q2 : toDo ≤ has
      · rw [if_pos q2] at h
        injection h with h
        subst h
        exact ⟨Nat.le_refl _, by simp, by simp; omega⟩
      · rw [if_neg q2] at h
        have := lay1_rg m (v + 1) (hr (v + 1)) (toDo - has) _ b h (fun u hu0 hu => h1 u (by omega) (by omega)) (by
          by_cases q3 : v + 1 < v + (m + 1)
          · exact h1 _ (by omega) q3
          · have : m = 0 := by omega
            subst this
            unfold lay1 at h
            cases h)
        omega
theorem layD_rg {D : Pb} (hD : dOk D) {f i : Nat} (hf : f < 4) (hi : i < D 0 0 1) {w l : Nat} (hl : l ≤ 99) {b : Nat × Nat} (h : layD D f i (w, l) = some b) : w ≤ b.1 ∧ b.1 ≤ D 5 i 0 ∧ b.1 ≤ 51 ∧ b.2 ≤ 99 := by
  unfold layD at h
  have h5 := (hD.2.2.1 i hi).2.1
  have := lay1_rg _ _ _ _ _ b h (fun u hu0 hu => hD.2.2.2.2.1 f u hf (by simp at hu0 hu; omega)) hl
  simp at this
  omega
def layZ (S : HS) : Option (Nat × Nat) → Option (Int32 × HS)
  | none => some (0, S)
  | some b => some (1, ui (ui S 14 0 0 (nI b.1)) 14 0 1 (nI b.2))
theorem X0_lay_loop (N : Nat) {S : HS} {D : Pb} (h : Fx S D) {f i w l : Nat} (hf : f < 4) (hi : i < D 0 0 1) (h0 : gi S 14 0 0 = nI w) (h1 : gi S 14 0 1 = nI l) (hl : l ≤ 99) (hw : w ≤ 51) : ∀ (m n v toDo : Nat) (bg : Bool), m = D 5 i 0 + 1 - v → m < n → w ≤ v → v ≤ 52 → toDo ≤ 6000 → f_X0_lay_19 csF N n i f (rkC S) (nI toDo) (if bg = true then 1 else 0) (nI v) S = layZ S (lay1 (D 2 f) (fun w => decide (D 9 (7 * f + i) w = 1)) m v (if v = w then l else D 2 f v) toDo bg) := by
  obtain ⟨o1, -⟩ := h.o hi
  have h7 := (h.oo hi).1
  have m7 : mc csF 7 i = true := mF (by decide) h7
  have m4 : mc csF 4 f = true := mF (by decide) hf
  have m5 : mc csF 5 f = true := mF (by decide) hf
  have m14 : mc csF 14 0 = true := mF (by decide) (by decide)
  have m20 : mc csF 20 (rkC S) = true := mF (by decide) h.r.1
  have ef := (h.f hf).1
  intro m
  induction m with
  | zero =>
    intro n v toDo bg hm hn hv hv2 ht
    obtain ⟨n, rfl⟩ : ∃ k, n = k + 1 := ⟨n - 1, by omega⟩
    rw [f_X0_lay_19, m7, ck_t, o1.1, if_pos (by rw [nI_ltI (by omega) (by omega)]; omega)]
    rfl
  | succ m ih =>
    intro n v toDo bg hm hn hv hv2 ht
    obtain ⟨n, rfl⟩ : ∃ k, n = k + 1 := ⟨n - 1, by omega⟩
    have hv5 : v < 52 := by omega
    have step : ∀ has, has ≤ 99 → f_X0_lay_51 csF N (f_X0_lay_19 csF N n) i f (rkC S) (nI toDo) (if bg = true then 1 else 0) (nI v) (nI has) S = layZ S (lay1 (D 2 f) (fun w => decide (D 9 (7 * f + i) w = 1)) (m + 1) v has toDo bg) := by
      intro has hhas
      have e94 : ∀ (bg' : Bool), f_X0_lay_94 csF N (f_X0_lay_19 csF N n) i f (rkC S) (nI toDo) (if bg' = true then 1 else 0) (nI v) (nI has) S = layZ S (if toDo ≤ has then some (v, has - toDo) else lay1 (D 2 f) (fun w => decide (D 9 (7 * f + i) w = 1)) m (v + 1) (D 2 f (v + 1)) (toDo - has) bg') := by
        intro bg'
        rw [f_X0_lay_94]
        by_cases q : toDo ≤ has
        · rw [if_pos q, if_neg (by rw [nI_ltI (by omega) (by omega)]; omega), m14, ck_t, lt_s_, lt_s_]
          have : nI has - nI toDo = nI (has - toDo) := by rw [i_eq, i_sub (by rw [nI_toInt (by omega), nI_toInt (by omega)]; omega) (by rw [nI_toInt (by omega), nI_toInt (by omega)]; omega), nI_toInt (by omega), nI_toInt (by omega), nI_toInt (by omega)]; omega
          rw [this]
          rfl
        · rw [if_neg q, if_pos (by rw [nI_ltI (by omega) (by omega)]; omega), lt_s_, lt_s_]
          have : nI toDo - nI has = nI (toDo - has) := by rw [i_eq, i_sub (by rw [nI_toInt (by omega), nI_toInt (by omega)]; omega) (by rw [nI_toInt (by omega), nI_toInt (by omega)]; omega), nI_toInt (by omega), nI_toInt (by omega), nI_toInt (by omega)]; omega
          rw [this, nI_1, ih n (v + 1) (toDo - has) bg' (by omega) (by omega) (by omega) (by omega) (by omega), if_neg (by omega)]
      have e68 : ∀ (bg' : Bool), f_X0_lay_68 csF N (f_X0_lay_19 csF N n) i f (rkC S) (nI toDo) (nI v) (nI has) (if bg' = true then 1 else 0) S = layZ S (if (bg' && !decide (D 9 (7 * f + i) v = 1)) = true then none else if toDo ≤ has then some (v, has - toDo) else lay1 (D 2 f) (fun w => decide (D 9 (7 * f + i) w = 1)) m (v + 1) (D 2 f (v + 1)) (toDo - has) bg') := by
        intro bg'
        rw [f_X0_lay_68]
        cases bg' with
        | false =>
          rw [if_pos (by decide)]
          have := e94 false
          simp at this ⊢
          exact this
        | true =>
          rw [if_neg (by decide), m4, ck_t, m7, ck_t, m20, ck_t, ef, (h.k hf hi hv5 N).1, ob_s]
          by_cases q : D 9 (7 * f + i) v = 1
          · have := e94 true
            rw [if_pos q, if_neg (by decide), decide_eq_true q]
            simp at this ⊢
            exact this
          · rw [if_neg q, if_pos rfl, decide_eq_false q]
            rfl
      rw [f_X0_lay_51]
      unfold lay1
      cases bg with
      | false =>
        rw [if_pos (by decide)]
        by_cases q : has = 0
        · subst q
          rw [if_pos (by decide)]
          have := e68 false
          simp at this ⊢
          exact this
        · rw [if_neg (by rw [show (0 : Int32) = nI 0 from rfl, nI_leI (by omega) (by omega)]; omega)]
          have := e68 true
          rw [decide_eq_true (show 0 < has by omega)]
          simp at this ⊢
          exact this
      | true =>
        rw [if_neg (by decide)]
        have := e68 true
        simp at this ⊢
        exact this
    rw [f_X0_lay_19, m7, ck_t, o1.1, if_neg (by rw [nI_ltI (by omega) (by omega)]; omega), m14, ck_t, h0]
    by_cases q : v = w
    · subst q
      rw [if_pos rfl, if_pos rfl, h1]
      exact step l hl
    · rw [if_neg (by rw [nI_eq (by omega) (by omega)]; exact q), if_neg q, m4, ck_t, m5, ck_t, inb_k hv5 (by decide), ck_t, cl_k (by omega), (h.h hf hv5).1]
      exact step _ (h.h hf hv5).2.2
theorem X0_lay_eq (N : Nat) (hN : 60 ≤ N) {S : HS} {D : Pb} (h : Fx S D) {f i w l : Nat} (hf : f < 4) (hi : i < D 0 0 1) (h0 : gi S 14 0 0 = nI w) (h1 : gi S 14 0 1 = nI l) (hl : l ≤ 99) (hw : w ≤ 51) : f_X0_lay csF N i f (rkC S) S = layZ S (layD D f i (w, l)) := by
  have h7 := (h.oo hi).1
  have h5 := (h.o hi).1.2.2
  have hll := h.l hf hi N
  rw [f_X0_lay, mF (by decide) (show f < 4 from hf), ck_t, mF (by decide) (show i < 7 from h7), ck_t, (h.f hf).1, hll.1, ob_s, mF (by decide) (by decide), ck_t, lt_s_, h0]
  have := X0_lay_loop N h hf hi h0 h1 hl hw (D 5 i 0 + 1 - w) N w (D 3 f i) false rfl (by omega) (by omega) (by omega) hll.2.2.1
  rw [if_pos rfl] at this
  exact this
