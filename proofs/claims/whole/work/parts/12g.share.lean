/-! ===== best: sets are shared among families ===== -/
theorem lI_toInt {x : Int} (h1 : -9000000000000000000 ≤ x) (h2 : x ≤ 9000000000000000000) : (lI x).toInt = x := by
  rw [Int64.toInt_ofInt, show Int64.size = 18446744073709551616 from rfl, Int.bmod_def]
  split <;> omega
theorem lg_le {x y : Int} (h1 : -9000000000000000000 ≤ x) (h2 : x ≤ 9000000000000000000) (h3 : -9000000000000000000 ≤ y) (h4 : y ≤ 9000000000000000000) : lg_cmp (lI x) (lI y) ≤ 0 ↔ x ≤ y := by
  unfold lg_cmp
  have e : lI x > lI y ↔ y < x := by
    show lI y < lI x ↔ _
    rw [Int64.lt_iff_toInt_lt, lI_toInt h1 h2, lI_toInt h3 h4]
  by_cases q : y < x
  · rw [if_pos (e.mpr q)]
    constructor
    · intro h; exact absurd h (by decide)
    · intro h; omega
  · rw [if_neg (fun z => q (e.mp z))]
    constructor
    · intro _; omega
    · intro _
      split <;> decide
theorem nI_and (a b : Nat) : nI a &&& nI b = nI (a &&& b) := by
  apply Int32.toBitVec_inj.mp
  rw [Int32.toBitVec_and]
  show BitVec.ofNat 32 a &&& BitVec.ofNat 32 b = BitVec.ofNat 32 (a &&& b)
  rw [BitVec.ofNat_and]
theorem nI_xor (a b : Nat) : nI a ^^^ nI b = nI (a ^^^ b) := by
  apply Int32.toBitVec_inj.mp
  rw [Int32.toBitVec_xor]
  show BitVec.ofNat 32 a ^^^ BitVec.ofNat 32 b = BitVec.ofNat 32 (a ^^^ b)
  rw [BitVec.ofNat_xor]
def wyOk (Cn : Nat → Nat → Prop) : Nat → Nat → List Nat → Prop
  | 0, _, qs => qs = []
  | F + 1, s, qs => ∃ q r, qs = q :: r ∧ q &&& s = q ∧ Cn F q ∧ wyOk Cn F (s ^^^ q) r
def wyVal (rk : Nat → Nat → Int) : Nat → List Nat → Int
  | 0, _ => 0
  | _ + 1, [] => 0
  | F + 1, q :: r => rk F q + wyVal rk F r
def trc (P : Nat → Nat → Nat) : Nat → Nat → List Nat
  | 0, _ => []
  | F + 1, s => P F s :: trc P F (s ^^^ P F s)
theorem trc_cg {P P' : Nat → Nat → Nat} : ∀ F s, (∀ f, f < F → ∀ t, P f t = P' f t) → trc P F s = trc P' F s
  | 0, _, _ => rfl
  | F + 1, s, h => by
    unfold trc
    rw [h F (by omega) s, trc_cg F _ (fun f hf t => h f (by omega) t)]
def Bst (Cn : Nat → Nat → Prop) (rk : Nat → Nat → Int) (P : Nat → Nat → Nat) (F s : Nat) (v : Int) : Prop := wyOk Cn F s (trc P F s) ∧ wyVal rk F (trc P F s) = v ∧ ∀ qs, wyOk Cn F s qs → wyVal rk F qs ≤ v
/-- the best part of a set for one family more -/
def Opt (Cn : Nat → Prop) (rk B : Nat → Int) (s sub : Nat) (most : Int) (t : Nat) : Prop := t &&& s = t ∧ Cn t ∧ most = rk t + B (s ^^^ t) ∧ ∀ q, q < sub → q &&& s = q → Cn q → rk q + B (s ^^^ q) ≤ most
theorem and_le {q s : Nat} (h : q &&& s = q) : q ≤ s := by rw [← h]; exact Nat.and_le_right
theorem xor_and {q s : Nat} (h : q &&& s = q) {n : Nat} (hs : s < 2 ^ n) : s ^^^ q < 2 ^ n := Nat.xor_lt_two_pow hs (Nat.lt_of_le_of_lt (and_le h) hs)
theorem Bst_step {Cn : Nat → Nat → Prop} {rk : Nat → Nat → Int} {P : Nat → Nat → Nat} {F s n : Nat} {B : Nat → Int} (hs : s < 2 ^ n) (hB : ∀ t, t < 2 ^ n → Bst Cn rk P F t (B t)) {most : Int} (ho : Opt (Cn F) (rk F) B s (s + 1) most (P F s)) : Bst Cn rk P (F + 1) s most := by
  obtain ⟨o1, o2, o3, o4⟩ := ho
  obtain ⟨b1, b2, b3⟩ := hB (s ^^^ P F s) (xor_and o1 hs)
  refine ⟨⟨_, _, rfl, o1, o2, b1⟩, ?_, ?_⟩
  · show rk F (P F s) + wyVal rk F (trc P F (s ^^^ P F s)) = most
    rw [b2, o3]
  · rintro qs ⟨q, r, rfl, h1, h2, h3⟩
    show rk F q + wyVal rk F r ≤ most
    have := (hB (s ^^^ q) (xor_and h1 hs)).2.2 r h3
    have := o4 q (by have := and_le h1; omega) h1 h2
    omega
/-! the loops -/
def pC (S : HS) : Nat → Nat → Nat := fun f s => nat (gi S 19 f s)
theorem shr26 (N : Nat) (K : Int32 → Int32 → HS → Option (Unit × HS)) {D : Pb} (hD : dOk D) {l0 : List Nat} {f s : Nat} (hf : f < 4) (hl : l0.length ≤ 7) (hm : ∀ j, j ∈ l0 → j < D 0 0 1 ∧ D 8 j 0 = 1) (hs : s < 2 ^ l0.length) {S : HS} (hT : ∀ t, t < 2 ^ l0.length → TbC S D l0 f t) {B : Nat → Int} (hB : ∀ t, t ≤ s → gl S 17 1 t = lI (B t)) (hBr : ∀ t, t ≤ s → 0 ≤ B t ∧ B t ≤ 1000000000000000 * (f : Int)) : ∀ (m n sub : Nat) (most : Int) (t : Nat), sub + m = s + 1 → m < n → Opt (fun t => canD D f (sel l0 t)) (fun t => rnk D f (sel l0 t)) B s sub most t → ∃ most' t', f_X4_shareAlsoWith_26 csF N K n (nI f) (nI s) (lI most) (nI t) (nI sub) S = K (nI f) (nI s + -1) (ui (ul S 17 1 s (lI most')) 19 f s (nI t')) ∧ Opt (fun t => canD D f (sel l0 t)) (fun t => rnk D f (sel l0 t)) B s (s + 1) most' t' := by
  have hs128 : s < 128 := Nat.lt_of_lt_of_le hs (pw_le hl)
  have hrk : ∀ t, t < 2 ^ l0.length → -1000000000000000 ≤ rnk D f (sel l0 t) ∧ rnk D f (sel l0 t) ≤ 1000000000000000 := by
    intro t ht
    have h1 := rnk_rg hD hf (sel l0 t) (fun j hj => by
      obtain ⟨p, p1, p2, p3⟩ := (sel_mem hl ht).mp hj
      rw [← p3]
      exact hm _ (getD_mem p1))
    have h2 : (sel l0 t).length ≤ 7 := selN_len 7
    omega
  have hval : ∀ q, q &&& s = q → -9000000000000000000 ≤ rnk D f (sel l0 q) + B (s ^^^ q) ∧ rnk D f (sel l0 q) + B (s ^^^ q) ≤ 9000000000000000000 := by
    intro q hq
    have hle := and_le hq
    have h1 := hrk q (by omega)
    have hx : s ^^^ q ≤ s := by
      have e : s ^^^ q = s - q := by
        have h3 : ∀ a, a < 128 → ∀ b, b < 128 → b &&& a = b → a ^^^ b = a - b := by decide +kernel
        exact h3 s hs128 q (by omega) hq
      omega
    have h2 := hBr _ hx
    omega
  intro m
  induction m with
  | zero =>
    intro n sub most t h1 h2 ho
    obtain ⟨n, rfl⟩ : ∃ k, n = k + 1 := ⟨n - 1, by omega⟩
    have e : sub = s + 1 := by omega
    subst e
    refine ⟨most, t, ?_, ho⟩
    rw [f_X4_shareAlsoWith_26, if_pos (by rw [nI_ltI (by omega) (by omega)]; omega), mF (by decide) (by decide), ck_t, mF (by decide) (by decide), ck_t, inb_k hs128 (by decide), ck_t, lt_s_, mF (by decide) (by decide), ck_t, inb_k hf (by decide), ck_t, cl_k (show f < 2147483648 by omega), mF (by decide) (show f < 4 from hf), ck_t, ck_t, lt_s_, lt_s_, cl_k (show s < 2147483648 by omega)]
  | succ m ih =>
    intro n sub most t h1 h2 ho
    obtain ⟨n, rfl⟩ : ∃ k, n = k + 1 := ⟨n - 1, by omega⟩
    have hsub : sub < 128 := by omega
    obtain ⟨o1, o2, o3, o4⟩ := ho
    have hmost := hval t o1
    have skip : (sub &&& s = sub → canD D f (sel l0 sub) → rnk D f (sel l0 sub) + B (s ^^^ sub) ≤ most) → ∃ most' t', f_X4_shareAlsoWith_26 csF N K n (nI f) (nI s) (lI most) (nI t) (nI (sub + 1)) S = K (nI f) (nI s + -1) (ui (ul S 17 1 s (lI most')) 19 f s (nI t')) ∧ Opt (fun t => canD D f (sel l0 t)) (fun t => rnk D f (sel l0 t)) B s (s + 1) most' t' := fun hq => by
      refine ih n (sub + 1) most t (by omega) (by omega) ⟨o1, o2, o3, fun q hq1 hq2 hq3 => ?_⟩
      by_cases e : q = sub
      · subst e; exact hq hq2 hq3
      · exact o4 q (by omega) hq2 hq3
    rw [f_X4_shareAlsoWith_26, if_neg (by rw [nI_ltI (by omega) (by omega)]; omega), nI_and]
    by_cases q1 : sub &&& s = sub
    · rw [if_pos (by rw [q1]), mF (by decide) (by decide), ck_t, mF (by decide) (by decide), ck_t, inb_k hsub (by decide), ck_t, cl_k (show sub < 2147483648 by omega)]
      obtain ⟨t1, t2, t3⟩ := hT sub (by omega)
      rcases t3 with ⟨c1, c2, -⟩ | ⟨c1, c2⟩
      · have hx : s ^^^ sub ≤ s := by
          have h3 : ∀ a, a < 128 → ∀ b, b < 128 → b &&& a = b → a ^^^ b = a - b := by decide +kernel
          rw [h3 s hs128 sub hsub q1]
          omega
        rw [if_neg (by rw [c2]; decide), mF (by decide) (by decide), ck_t, ck_t, mF (by decide) (by decide), ck_t, nI_xor, inb_k (show s ^^^ sub < 128 by omega) (by decide), ck_t, cl_k (show s ^^^ sub < 2147483648 by omega), t2, hB _ hx, lI_add]
        have hv := hval sub q1
        by_cases q2 : rnk D f (sel l0 sub) + B (s ^^^ sub) ≤ most
        · rw [if_pos ((lg_le hv.1 hv.2 (by rw [o3]; exact hmost.1) (by rw [o3]; exact hmost.2)).mpr q2), lt_s_, nI_1]
          exact skip (fun _ _ => q2)
        · rw [if_neg (fun x => q2 ((lg_le hv.1 hv.2 (by rw [o3]; exact hmost.1) (by rw [o3]; exact hmost.2)).mp x)), ck_t, ck_t, lt_s_, lt_s_, nI_1]
          refine ih n (sub + 1) _ sub (by omega) (by omega) ⟨q1, c1, rfl, fun q hq1 hq2 hq3 => ?_⟩
          by_cases e : q = sub
          · subst e; exact Int.le_refl _
          · have := o4 q (by omega) hq2 hq3
            show rnk D f (sel l0 q) + B (s ^^^ q) ≤ rnk D f (sel l0 sub) + B (s ^^^ sub)
            have this' : rnk D f (sel l0 q) + B (s ^^^ q) ≤ most := this
            omega
      · rw [if_pos c2, lt_s_, nI_1]
        exact skip (fun _ x => absurd x c1)
    · rw [if_neg (by rw [nI_eq (by have := Nat.and_le_left (n := sub) (m := s); omega) (by omega)]; exact q1), lt_s_, nI_1]
      exact skip (fun x => absurd x q1)
