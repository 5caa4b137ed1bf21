/-! ===== custom: rights ===== -/
abbrev R3 : Type := (Nat → Int32) × (Nat → Nat → Int32) × (Nat → Nat → Bool)
def RtC (S : HS) (k : Nat) (r : R3) : Prop := ∀ p, p < 6 → gi S 21 k p = r.1 p ∧ (∀ f, f < 4 → gi S 23 (6 * k + p) f = r.2.1 p f) ∧ ∀ w, w < 52 → bitC (gl S 24 k p) w = r.2.2 p w
/-- the rights of the other number stay -/
def Oth (k : Nat) (S Z : HS) : Prop := (∀ k' j, k' ≠ k → gi Z 21 k' j = gi S 21 k' j) ∧ (∀ i j, ¬ (6 * k ≤ i ∧ i < 6 * k + 6) → gi Z 23 i j = gi S 23 i j) ∧ ∀ k' j, k' ≠ k → gl Z 24 k' j = gl S 24 k' j
theorem Oth.rf (k : Nat) (S : HS) : Oth k S S := ⟨fun _ _ _ => rfl, fun _ _ _ => rfl, fun _ _ _ => rfl⟩
theorem Oth.trans {k : Nat} {S T Z : HS} (h1 : Oth k S T) (h2 : Oth k T Z) : Oth k S Z := ⟨fun a b c => (h2.1 a b c).trans (h1.1 a b c), fun a b c => (h2.2.1 a b c).trans (h1.2.1 a b c), fun a b c => (h2.2.2 a b c).trans (h1.2.2 a b c)⟩
theorem Oth.md {M : List (Nat × Option Nat × Option Nat)} {k : Nat} {S Z : HS} (m : Md M S Z) (h1 : ∀ k j, pm M 21 k j = false) (h2 : ∀ k j, pm M 23 k j = false) (h3 : ∀ k j, pm M 24 k j = false) : Oth k S Z := ⟨fun _ _ _ => m.gi _ _ _ (h1 _ _), fun _ _ _ => m.gi _ _ _ (h2 _ _), fun _ _ _ => m.gl _ _ _ (h3 _ _)⟩
theorem RtC.md {M : List (Nat × Option Nat × Option Nat)} {k : Nat} {S Z : HS} {r : R3} (h : RtC S k r) (m : Md M S Z) (h1 : ∀ k j, pm M 21 k j = false) (h2 : ∀ k j, pm M 23 k j = false) (h3 : ∀ k j, pm M 24 k j = false) : RtC Z k r := fun p hp => by
  obtain ⟨a, b, c⟩ := h p hp
  exact ⟨(m.gi _ _ _ (h1 _ _)).trans a, fun f hf => (m.gi _ _ _ (h2 _ _)).trans (b f hf), fun w hw => by rw [m.gl _ _ _ (h3 _ _)]; exact c w hw⟩
def gvZ (S : HS) (k p : Nat) (v : Int32) : HS := ui (ui (ui (ui (ui S 21 k p v) 23 (6 * k + p) 0 (-1)) 23 (6 * k + p) 1 (-1)) 23 (6 * k + p) 2 (-1)) 23 (6 * k + p) 3 (-1)
theorem give_step (N n : Nat) {k p f : Nat} (hk : k < 2) (hp : p < 6) (hf : f < 4) (S : HS) : f_X5_give_9 csF N (n + 1) k (nI p) (nI f) S = f_X5_give_9 csF N n k (nI p) (nI (f + 1)) (ui S 23 (6 * k + p) f (-1)) := by
  have h4 : ¬ (4 : Int32) ≤ nI f := by rw [show (4 : Int32) = nI 4 from rfl, nI_leI (by omega) (by omega)]; omega
  rw [f_X5_give_9, if_neg h4, mF (by decide) (show k < 2 from hk), ck_t, mF (by decide) (show k < 2 from hk), ck_t, inb_k hp (by decide), ck_t, cl_k (show p < 2147483648 by omega), mF (by decide) (show 6 * k + p < 12 by omega), ck_t, inb_k hf (by decide), ck_t, lt_s_, lt_s_, cl_k (show f < 2147483648 by omega), nI_1]
theorem X5_give_eq (N : Nat) (hN : 5 ≤ N) {k p : Nat} (hk : k < 2) (hp : p < 6) (v : Int32) (S : HS) : f_X5_give csF N k (nI p) v S = some ((), gvZ S k p v) := by
  obtain ⟨n, rfl⟩ : ∃ k, N = k + 5 := ⟨N - 5, by omega⟩
  rw [f_X5_give, mF (by decide) (show k < 2 from hk), ck_t, mF (by decide) (show k < 2 from hk), ck_t, inb_k hp (by decide), ck_t, lt_s_, cl_k (show p < 2147483648 by omega), show (0 : Int32) = nI 0 from rfl, give_step _ (n + 4) hk hp (by decide), give_step _ (n + 3) hk hp (by decide), give_step _ (n + 2) hk hp (by decide), give_step _ (n + 1) hk hp (by decide), f_X5_give_9, if_pos (by decide)]
  rfl
theorem gvZ_rt {S : HS} {k p : Nat} {v : Int32} {r : R3} (h : RtC S k r) : RtC (gvZ S k p v) k (fun q => if q = p then v else r.1 q, fun q f => if q = p then -1 else r.2.1 q f, r.2.2) := by
  intro q hq
  obtain ⟨a, b, c⟩ := h q hq
  unfold gvZ
  by_cases e : q = p
  · subst e
    refine ⟨by simp [gi_ui], fun f hf => ?_, fun w hw => by simp [gl_ui]; exact c w hw⟩
    rcases (show f = 0 ∨ f = 1 ∨ f = 2 ∨ f = 3 by omega) with rfl | rfl | rfl | rfl <;> simp [gi_ui]
  · refine ⟨by simp [gi_ui, e]; exact a, fun f hf => ?_, fun w hw => by simp [gl_ui]; exact c w hw⟩
    have : ¬ 6 * k + q = 6 * k + p := by omega
    simp [gi_ui, e]
    exact b f hf
theorem gvZ_oth {S : HS} {k p : Nat} {v : Int32} (hp : p < 6) : Oth k S (gvZ S k p v) := by
  unfold gvZ
  refine ⟨fun k' j hk => by simp [gi_ui, hk], fun i j hi => ?_, fun k' j _ => by simp [gl_ui]⟩
  have : ¬ i = 6 * k + p := by omega
  simp [gi_ui, this]
theorem gvZ_md (S : HS) (k p : Nat) (v : Int32) : Md [(21, none, none), (23, none, none)] S (gvZ S k p v) := (((((Md.rf _ S).ui rfl rfl).ui rfl rfl).ui rfl rfl).ui rfl rfl).ui rfl rfl
def r30 : R3 := (fun _ => -1, fun _ _ => -1, fun _ _ => false)
theorem bit0 (w : Nat) : bitC 0 w = false := by
  unfold bitC
  show (0#64).getLsbD w = false
  simp
theorem X5_forget_loop (N : Nat) (hN : 5 ≤ N) {k : Nat} (hk : k < 2) : ∀ (m n p : Nat) (S : HS), p + m = 6 → m < n → (∀ q, q < p → gi S 21 k q = -1 ∧ (∀ f, f < 4 → gi S 23 (6 * k + q) f = -1) ∧ gl S 24 k q = 0) → ∃ Z, f_X5_forget_2 csF N n k (nI p) S = some ((), Z) ∧ Oth k S Z ∧ ∀ q, q < 6 → gi Z 21 k q = -1 ∧ (∀ f, f < 4 → gi Z 23 (6 * k + q) f = -1) ∧ gl Z 24 k q = 0 := by
  intro m
  induction m with
  | zero =>
    intro n p S h1 h2 hq
    obtain ⟨n, rfl⟩ : ∃ k, n = k + 1 := ⟨n - 1, by omega⟩
    have : (6 : Int32) ≤ nI p := by rw [show (6 : Int32) = nI 6 from rfl, nI_leI (by omega) (by omega)]; omega
    exact ⟨S, by rw [f_X5_forget_2, if_pos this], Oth.rf k S, fun q h => hq q (by omega)⟩
  | succ m ih =>
    intro n p S h1 h2 hq
    obtain ⟨n, rfl⟩ : ∃ k, n = k + 1 := ⟨n - 1, by omega⟩
    have h6 : ¬ (6 : Int32) ≤ nI p := by rw [show (6 : Int32) = nI 6 from rfl, nI_leI (by omega) (by omega)]; omega
    have hp : p < 6 := by omega
    have o1 : Oth k S (ul (gvZ S k p (-1)) 24 k p 0) := (gvZ_oth (v := -1) hp).trans ⟨fun _ _ _ => by simp [gi_ul], fun _ _ _ => by simp [gi_ul], fun k' j hk' => by simp [gl_ul, hk']⟩
    obtain ⟨Z, z1, z2, z3⟩ := ih n (p + 1) (ul (gvZ S k p (-1)) 24 k p 0) (by omega) (by omega) (fun q hqp => by
      by_cases e : q = p
      · subst e
        refine ⟨by simp [gi_ul, gvZ, gi_ui], fun f hf => ?_, by simp [gl_ul]⟩
        rcases (show f = 0 ∨ f = 1 ∨ f = 2 ∨ f = 3 by omega) with rfl | rfl | rfl | rfl <;> simp [gi_ul, gvZ, gi_ui]
      · obtain ⟨a, b, c⟩ := hq q (by omega)
        have : ¬ 6 * k + q = 6 * k + p := by omega
        refine ⟨by simp [gi_ul, gvZ, gi_ui, e]; exact a, fun f hf => by simp [gi_ul, gvZ, gi_ui, e]; exact b f hf, by simp [gl_ul, e, gvZ, gl_ui]; exact c⟩)
    refine ⟨Z, ?_, o1.trans z2, z3⟩
    rw [f_X5_forget_2, if_neg h6, mF (by decide) (show k < 2 from hk), ck_t, X5_give_eq N hN hk hp, ob_s, mF (by decide) (show k < 2 from hk), ck_t, inb_k hp (by decide), ck_t, lt_s_, lt_s_, cl_k (by omega), nI_1]
    exact z1
theorem X5_forget_eq (N : Nat) (hN : 7 ≤ N) {k : Nat} (hk : k < 2) (S : HS) : ∃ Z, f_X5_forget csF N k S = some ((), Z) ∧ Oth k S Z ∧ RtC Z k r30 ∧ Md ml_X5_forget S Z := by
  obtain ⟨Z, z1, z2, z3⟩ := X5_forget_loop N (by omega) hk 6 N 0 S (by omega) (by omega) (fun q h => by omega)
  rw [show nI 0 = 0 from rfl] at z1
  refine ⟨Z, z1, z2, fun p hp => ?_, md_X5_forget _ _ _ _ _ _ z1⟩
  obtain ⟨a, b, c⟩ := z3 p hp
  exact ⟨a, b, fun w hw => by rw [c]; exact bit0 w⟩
theorem J9_max_eq (N : Nat) (x y : Int32) (S : HS) : f_J9_max_7cf53 csF N x y S = some (if x < y then y else x, S) := by
  unfold f_J9_max_7cf53
  by_cases h : x < y
  · rw [if_pos h, if_pos h]
  · rw [if_neg h, if_neg h]
theorem X5_share_eq (N : Nat) {k p f : Nat} (hk : k < 2) (hp : p < 6) (hf : f < 4) (v : Int32) (S : HS) : f_X5_share csF N k (nI p) (nI f) v S = some ((), ui S 23 (6 * k + p) f (if gi S 23 (6 * k + p) f < v then v else gi S 23 (6 * k + p) f)) := by
  rw [f_X5_share, mF (by decide) (show k < 2 from hk), ck_t, mF (by decide) (show k < 2 from hk), ck_t, inb_k hp (by decide), ck_t, ck_t, cl_k (show p < 2147483648 by omega), mF (by decide) (show 6 * k + p < 12 by omega), ck_t, inb_k hf (by decide), ck_t, cl_k (show f < 2147483648 by omega), J9_max_eq, ob_s, ck_t, lt_s_]
theorem or_bit (x : Int64) {v w : Nat} (hv : v < 64) : bitC (x ||| ((1 : Int64) <<< ((nI v).toInt64 &&& 63))) w = (bitC x w || decide (w = v)) := by
  unfold bitC
  have e : ((1 : Int64) <<< ((nI v).toInt64 &&& 63)).toBitVec = 1#64 <<< v := by
    rw [Int64.toBitVec_shiftLeft, BitVec.shiftLeft_eq', sh_amt v hv]
    rfl
  rw [Int64.toBitVec_or, BitVec.getLsbD_or, e, BitVec.getLsbD_shiftLeft]
  congr 1
  by_cases h : w = v
  · subst h
    simp [hv]
  · rw [decide_eq_false h]
    by_cases h2 : w < v
    · simp [h2]
    · have : ¬ w - v = 0 := by omega
      simp [this]
theorem X5_shut_loop (N : Nat) {k p c : Nat} (hk : k < 2) (hp : p < 6) (hc : c < 52) : ∀ (m n b : Nat) (S : HS), b + m = c + 1 → m < n → ∃ Z, f_X5_shut_3 csF N n k (nI p) (nI c) (nI b) S = some ((), Z) ∧ Md [(24, none, none)] S Z ∧ (∀ k' j, ¬ (k' = k ∧ j = p) → gl Z 24 k' j = gl S 24 k' j) ∧ ∀ w, bitC (gl Z 24 k p) w = (bitC (gl S 24 k p) w || (decide (b ≤ w) && decide (w ≤ c))) := by
  intro m
  induction m with
  | zero =>
    intro n b S h1 h2
    obtain ⟨n, rfl⟩ : ∃ k, n = k + 1 := ⟨n - 1, by omega⟩
    have : nI c < nI b := by rw [nI_ltI (by omega) (by omega)]; omega
    refine ⟨S, by rw [f_X5_shut_3, if_pos this], Md.rf _ S, fun _ _ _ => rfl, fun w => ?_⟩
    have : (decide (b ≤ w) && decide (w ≤ c)) = false := by
      simp
      intro h
      omega
    rw [this, Bool.or_false]
  | succ m ih =>
    intro n b S h1 h2
    obtain ⟨n, rfl⟩ : ∃ k, n = k + 1 := ⟨n - 1, by omega⟩
    have hlt : ¬ nI c < nI b := by rw [nI_ltI (by omega) (by omega)]; omega
    obtain ⟨Z, z1, z2, z3, z4⟩ := ih n (b + 1) (ul S 24 k p (gl S 24 k p ||| ((1 : Int64) <<< ((nI b).toInt64 &&& 63)))) (by omega) (by omega)
    refine ⟨Z, ?_, ((Md.rf _ S).ul rfl rfl).trans z2, fun k' j hkj => ?_, fun w => ?_⟩
    · rw [f_X5_shut_3, if_neg hlt, mF (by decide) (show k < 2 from hk), ck_t, mF (by decide) (show k < 2 from hk), ck_t, inb_k hp (by decide), ck_t, ck_t, lt_s_, lt_s_, cl_k (by omega), nI_1]
      exact z1
    · rw [z3 k' j hkj, gl_ul]
      rw [if_neg (fun x => hkj ⟨x.2.1, x.2.2⟩)]
    · rw [z4 w, gl_ul_s, or_bit _ (by omega)]
      by_cases e : w = b
      · subst e
        simp
        omega
      · have e1 : decide (b + 1 ≤ w) = decide (b ≤ w) := by
          by_cases h : b ≤ w
          · rw [decide_eq_true h, decide_eq_true (by omega)]
          · rw [decide_eq_false h, decide_eq_false (by omega)]
        rw [e1, decide_eq_false e, Bool.or_false]
/-- a line is told -/
def apC3 (wh : Nat) (ns : List Nat) (r : R3) : R3 :=
  if wh = 4 then (fun q => if q = ns.getD 0 0 then nI (ns.getD 1 0) else r.1 q, fun q f => if q = ns.getD 0 0 then -1 else r.2.1 q f, r.2.2)
  else if wh = 6 then (r.1, fun q f => if q = ns.getD 0 0 ∧ f = ns.getD 1 0 then (if r.2.1 q f < nI (ns.getD 2 0) then nI (ns.getD 2 0) else r.2.1 q f) else r.2.1 q f, r.2.2)
  else if wh = 9 then (r.1, r.2.1, fun q w => r.2.2 q w || (decide (q = ns.getD 0 0) && (decide (ns.getD 1 0 ≤ w) && decide (w ≤ ns.getD 2 0))))
  else (fun q => if q = ns.getD 0 0 then -1 else r.1 q, fun q f => if q = ns.getD 0 0 then -1 else r.2.1 q f, r.2.2)
/-- the numbers of a line are what they may be -/
def lnOk (wh : Nat) (ns : List Nat) : Prop := (wh = 4 ∧ ns.length = 2 ∧ ns.getD 0 0 < 6 ∧ ns.getD 1 0 < 4) ∨ (wh = 6 ∧ ns.length = 3 ∧ ns.getD 0 0 < 6 ∧ ns.getD 1 0 < 4 ∧ ns.getD 2 0 < 52) ∨ (wh = 9 ∧ ns.length = 3 ∧ ns.getD 0 0 < 6 ∧ ns.getD 1 0 ≤ ns.getD 2 0 ∧ ns.getD 2 0 < 52) ∨ (wh = 11 ∧ ns.length = 1 ∧ ns.getD 0 0 < 6)
theorem X1_tell_eq (N : Nat) (hN : 60 ≤ N) {k wh : Nat} (hk : k < 2) {ns : List Nat} (hl : lnOk wh ns) {S : HS} {r : R3} (hr : RtC S k r) (hn : NmC S ns) : ∃ Z, f_X1_tell csF N (nI wh) k S = some ((), Z) ∧ Oth k S Z ∧ RtC Z k (apC3 wh ns r) ∧ Md ml_X1_tell S Z := by
  have main : ∃ Z, f_X1_tell csF N (nI wh) k S = some ((), Z) ∧ Oth k S Z ∧ RtC Z k (apC3 wh ns r) := by
    have i0 : inb 0 3 = true := by decide
    have i1 : inb 1 3 = true := by decide
    have i2 : inb 2 3 = true := by decide
    have c0 : (0 : Int32).toNatClampNeg = 0 := rfl
    have c1 : (1 : Int32).toNatClampNeg = 1 := rfl
    have c2 : (2 : Int32).toNatClampNeg = 2 := rfl
    have mk : mc csF 20 k = true := mF (by decide) (show k < 2 from hk)
    have m8 : mc csF 8 0 = true := mF (by decide) (by decide)
    have m11 : mc csF 11 0 = true := mF (by decide) (by decide)
    rcases hl with ⟨rfl, h0, h1, h2⟩ | ⟨rfl, h0, h1, h2, h3⟩ | ⟨rfl, h0, h1, h2, h3⟩ | ⟨rfl, h0, h1⟩
    · have n0 := (hn 0 (by omega)).1; have n1 := (hn 1 (by omega)).1
      refine ⟨gvZ S k (ns.getD 0 0) (nI (ns.getD 1 0)), ?_, gvZ_oth h1, gvZ_rt hr⟩
      rw [f_X1_tell, if_pos (by decide), m8, ck_t, m11, ck_t, i0, ck_t, i1, ck_t, mk, ck_t, c0, c1, n0, n1, X5_give_eq N (by omega) hk h1, ob_s]
    · have n0 := (hn 0 (by omega)).1; have n1 := (hn 1 (by omega)).1; have n2 := (hn 2 (by omega)).1
      refine ⟨ui S 23 (6 * k + ns.getD 0 0) (ns.getD 1 0) (if gi S 23 (6 * k + ns.getD 0 0) (ns.getD 1 0) < nI (ns.getD 2 0) then nI (ns.getD 2 0) else gi S 23 (6 * k + ns.getD 0 0) (ns.getD 1 0)), ?_, ⟨fun _ _ _ => by simp [gi_ui], fun i j hi => by
        have : ¬ i = 6 * k + ns.getD 0 0 := by omega
        rw [gi_ui, if_neg (fun x => this x.2.1)], fun _ _ _ => by simp [gl_ui]⟩, fun p hp => ?_⟩
      · rw [f_X1_tell, if_neg (by decide), if_pos (by decide), m8, ck_t, m11, ck_t, i0, ck_t, i1, ck_t, i2, ck_t, mk, ck_t, c0, c1, c2, n0, n1, n2, X5_share_eq N hk h1 h2, ob_s]
      · obtain ⟨a, b, c⟩ := hr p hp
        unfold apC3
        simp only [if_neg (show ¬ (6 : Nat) = 4 by decide), if_true]
        refine ⟨by rw [gi_ui_c _ _ _ _ _ _ (by decide)]; exact a, fun f hf => ?_, fun w hw => by rw [gl_ui]; exact c w hw⟩
        rw [gi_ui]
        by_cases e : p = ns.getD 0 0 ∧ f = ns.getD 1 0
        · rw [if_pos e, if_pos ⟨rfl, by rw [e.1], e.2⟩, ← e.1, ← e.2, b f hf]
        · rw [if_neg e, if_neg (fun x => e ⟨by omega, x.2.2⟩)]
          exact b f hf
    · have n0 := (hn 0 (by omega)).1; have n1 := (hn 1 (by omega)).1; have n2 := (hn 2 (by omega)).1
      obtain ⟨Z, z1, z2, z3, z4⟩ := X5_shut_loop N hk h1 h3 (ns.getD 2 0 + 1 - ns.getD 1 0) N (ns.getD 1 0) S (by omega) (by omega)
      refine ⟨Z, ?_, ⟨fun _ _ _ => z2.gi _ _ _ rfl, fun _ _ _ => z2.gi _ _ _ rfl, fun k' j hk' => z3 k' j (fun x => hk' x.1)⟩, fun p hp => ?_⟩
      · rw [f_X1_tell, if_neg (by decide), if_neg (by decide), if_pos (by decide), m8, ck_t, m11, ck_t, i0, ck_t, i1, ck_t, i2, ck_t, mk, ck_t, c0, c1, c2, n0, n1, n2, f_X5_shut, z1, ob_s]
      · obtain ⟨a, b, c⟩ := hr p hp
        unfold apC3
        simp only [if_neg (show ¬ (9 : Nat) = 4 by decide), if_neg (show ¬ (9 : Nat) = 6 by decide), if_true]
        refine ⟨by rw [z2.gi _ _ _ rfl]; exact a, fun f hf => by rw [z2.gi _ _ _ rfl]; exact b f hf, fun w hw => ?_⟩
        by_cases e : p = ns.getD 0 0
        · rw [decide_eq_true e, Bool.true_and, e, z4 w, ← e, c w hw]
        · rw [decide_eq_false e, Bool.false_and, Bool.or_false, z3 k p (fun x => e x.2)]
          exact c w hw
    · have n0 := (hn 0 (by omega)).1
      refine ⟨gvZ S k (ns.getD 0 0) (-1), ?_, gvZ_oth h1, gvZ_rt hr⟩
      rw [f_X1_tell, if_neg (by decide), if_neg (by decide), if_neg (by decide), m8, ck_t, m11, ck_t, i0, ck_t, mk, ck_t, c0, n0, X5_give_eq N (by omega) hk h1, ob_s]
  obtain ⟨Z, z1, z2, z3⟩ := main
  exact ⟨Z, z1, z2, z3, md_X1_tell _ _ _ _ _ _ _ z1⟩
