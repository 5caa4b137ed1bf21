/-! feed -/
def apC (b : Nat → Int32) (L : Nat) : Nat → HS → HS
  | 0, S => S
  | m + 1, S => ui (ui (apC b L m S) 10 0 (L + m) (b m)) 9 0 0 (nI (L + m + 1))
def apM (b : Nat → Int32) (L : Nat) : Nat → HS → HS
  | 0, S => S
  | m + 1, S => ui (ui (apM b L m S) 31 18 (L + m) (b m)) 30 0 24 (nI (L + m + 1))
theorem apC_len (b : Nat → Int32) {L : Nat} {S : HS} (h : gi S 9 0 0 = nI L) : ∀ m, gi (apC b L m S) 9 0 0 = nI (L + m)
  | 0 => h
  | m + 1 => by simp [apC, gi_ui]; rfl
theorem apM_len (b : Nat → Int32) {L : Nat} {S : HS} (h : gi S 30 0 24 = nI L) : ∀ m, gi (apM b L m S) 30 0 24 = nI (L + m)
  | 0 => h
  | m + 1 => by simp [apM, gi_ui]; rfl
theorem apC_at (b : Nat → Int32) (L : Nat) (S : HS) : ∀ m j, gi (apC b L m S) 10 0 j = if L ≤ j ∧ j < L + m then b (j - L) else gi S 10 0 j
  | 0, j => by simp [apC]; intro h1 h2; omega
  | m + 1, j => by
    simp only [apC, gi_ui]
    by_cases h : j = L + m
    · subst h
      simp
    · simp [h, apC_at b L S m j]
      by_cases h2 : L ≤ j ∧ j < L + m
      · have h3 : L ≤ j ∧ j < L + (m + 1) := by omega
        simp [h2, h3]
      · have h3 : ¬ (L ≤ j ∧ j < L + (m + 1)) := by omega
        simp [h2, h3]
theorem apM_at (b : Nat → Int32) (L : Nat) (S : HS) : ∀ m j, gi (apM b L m S) 31 18 j = if L ≤ j ∧ j < L + m then b (j - L) else gi S 31 18 j
  | 0, j => by simp [apM]; intro h1 h2; omega
  | m + 1, j => by
    simp only [apM, gi_ui]
    by_cases h : j = L + m
    · subst h
      simp
    · simp [h, apM_at b L S m j]
      by_cases h2 : L ≤ j ∧ j < L + m
      · have h3 : L ≤ j ∧ j < L + (m + 1) := by omega
        simp [h2, h3]
      · have h3 : ¬ (L ≤ j ∧ j < L + (m + 1)) := by omega
        simp [h2, h3]
/-- the byte at place t of five numbers, as it is told -/
def argF (a1 a2 a3 a4 a5 : Int32) (t : Nat) : Int32 := if t < 4 then a1 else if t < 8 then a2 else if t < 12 then a3 else if t < 16 then a4 else a5
def shF (a1 a2 a3 a4 a5 : Int32) (t : Nat) : Int32 := argF a1 a2 a3 a4 a5 t >>> (nI (24 - 8 * (t % 4)) &&& 31)
def byC (a1 a2 a3 a4 a5 : Int32) (t : Nat) : Int32 := (shF a1 a2 a3 a4 a5 t).toInt8.toInt32
def byM (a1 a2 a3 a4 a5 : Int32) (t : Nat) : Int32 := shF a1 a2 a3 a4 a5 t &&& 255
theorem and255 (x : Int32) : (x &&& 255).toInt8 = x.toInt8 := by
  apply Int8.toBitVec_inj.mp
  simp only [Int32.toBitVec_toInt8, Int32.toBitVec_and]
  apply BitVec.eq_of_getLsbD_eq
  intro i hi
  rw [BitVec.getLsbD_signExtend, BitVec.getLsbD_signExtend]
  have h8 : (255 : Int32).toBitVec = 255#32 := rfl
  have hb : (255#32).getLsbD i = true := by
    have : ∀ i, i < 8 → (255#32).getLsbD i = true := by decide
    exact this i hi
  have h32 : i < 32 := by omega
  simp [hi, h32, h8, hb]
theorem byC_M (a1 a2 a3 a4 a5 : Int32) (t : Nat) : byC a1 a2 a3 a4 a5 t = (byM a1 a2 a3 a4 a5 t).toInt8.toInt32 := by
  unfold byC byM; rw [and255]
theorem byM_rg (a1 a2 a3 a4 a5 : Int32) (t : Nat) : rg (byM a1 a2 a3 a4 a5 t) 0 255 := by
  unfold byM
  rw [pk_and (shF a1 a2 a3 a4 a5 t) 8 (by decide)]
  exact nI_rg (by omega) (by omega) (by omega)
theorem X7_put_step (N n : Nat) (a v2 : Int32) {k : Nat} {T : HS} (h : gi T 9 0 0 = nI k) (hk : k < 500) (hv : ¬ v2 < 0) : f_X7_put_3 csF N (n + 1) a v2 T = f_X7_put_3 csF N n a (v2 + -8) (ui (ui T 10 0 k (a >>> (v2 &&& 31)).toInt8.toInt32) 9 0 0 (nI (k + 1))) := by
  have i0 : inb (nI k) 500 = true := inb_k hk (by decide)
  have c0 : (nI k).toNatClampNeg = k := cl_k (by omega)
  have g0 : ¬ (500 : Int32) ≤ nI k := by rw [show (500 : Int32) = nI 500 from rfl, nI_leI (by omega) (by omega)]; omega
  rw [f_X7_put_3, if_neg hv, mF (by decide) (by decide), ck_t, h, if_neg g0, mF (by decide) (by decide), ck_t, i0, ck_t, lt_s_, lt_s_, lt_s_, c0, pk_vb, gi_ui_c _ _ _ _ _ _ (by decide), h, nI_1]
theorem X7_put_eq (N : Nat) (hN : 5 ≤ N) (a : Int32) (b : Nat → Int32) {L m : Nat} {S : HS} (h : gi S 9 0 0 = nI L) (hl : L + m + 4 ≤ 500) (hb : ∀ i, i < 4 → b (m + i) = (a >>> (nI (24 - 8 * i) &&& 31)).toInt8.toInt32) : f_X7_put csF N a (apC b L m S) = some ((), apC b L (m + 4) S) := by
  obtain ⟨n, rfl⟩ : ∃ k, N = k + 5 := ⟨N - 5, by omega⟩
  have b0 := hb 0 (by decide); have b1 := hb 1 (by decide); have b2 := hb 2 (by decide); have b3 := hb 3 (by decide)
  rw [show nI (24 - 8 * 0) = 24 from rfl] at b0
  rw [show nI (24 - 8 * 1) = 16 from rfl] at b1
  rw [show nI (24 - 8 * 2) = 8 from rfl] at b2
  rw [show nI (24 - 8 * 3) = 0 from rfl] at b3
  unfold f_X7_put
  rw [X7_put_step _ (n + 4) a 24 (apC_len b h m) (by omega) (by decide), ← b0]
  rw [show (24 : Int32) + -8 = 16 from by decide, show ui (ui (apC b L m S) 10 0 (L + m) (b (m + 0))) 9 0 0 (nI (L + m + 1)) = apC b L (m + 1) S from rfl]
  rw [X7_put_step _ (n + 3) a 16 (apC_len b h (m + 1)) (by omega) (by decide), ← b1]
  rw [show (16 : Int32) + -8 = 8 from by decide, show ui (ui (apC b L (m + 1) S) 10 0 (L + (m + 1)) (b (m + 1))) 9 0 0 (nI (L + (m + 1) + 1)) = apC b L (m + 2) S from rfl]
  rw [X7_put_step _ (n + 2) a 8 (apC_len b h (m + 2)) (by omega) (by decide), ← b2]
  rw [show (8 : Int32) + -8 = 0 from by decide, show ui (ui (apC b L (m + 2) S) 10 0 (L + (m + 2)) (b (m + 2))) 9 0 0 (nI (L + (m + 2) + 1)) = apC b L (m + 3) S from rfl]
  rw [X7_put_step _ (n + 1) a 0 (apC_len b h (m + 3)) (by omega) (by decide), ← b3]
  rw [show (0 : Int32) + -8 = -8 from by decide, show ui (ui (apC b L (m + 3) S) 10 0 (L + (m + 3)) (b (m + 3))) 9 0 0 (nI (L + (m + 3) + 1)) = apC b L (m + 4) S from rfl]
  rw [f_X7_put_3, if_pos (by decide)]
theorem X9_feed_loop (N : Nat) (a1 a2 a3 a4 a5 : Int32) {L : Nat} {S : HS} (h : gi S 30 0 24 = nI L) (hl : L + 20 ≤ 500) : ∀ (k n t : Nat), t + k = 20 → k < n → f_X9_feed_18 csF N n a1 a2 a3 a4 a5 (nI t) (apM (byM a1 a2 a3 a4 a5) L t S) = some (nI (L + 20), apM (byM a1 a2 a3 a4 a5) L 20 S) := by
  intro k
  induction k with
  | zero =>
    intro n t h1 h2
    obtain ⟨n, rfl⟩ : ∃ k, n = k + 1 := ⟨n - 1, by omega⟩
    have et : t = 20 := by omega
    subst et
    have : (20 : Int32) ≤ nI 20 := by decide
    simp [f_X9_feed_18, this, mcF, cnt, ck_t, apM_len _ h]
  | succ k ih =>
    intro n t h1 h2
    obtain ⟨n, rfl⟩ : ∃ k, n = k + 1 := ⟨n - 1, by omega⟩
    have hle : ∀ c : Nat, c < 100 → (nI c ≤ nI t ↔ c ≤ t) := fun c hc => nI_leI (by omega) (by omega)
    have h20 : ¬ (20 : Int32) ≤ nI t := by rw [show (20 : Int32) = nI 20 from rfl, hle 20 (by decide)]; omega
    have i0 : inb (nI (L + t)) 500 = true := inb_k (by omega) (by decide)
    have c0 : (nI (L + t)).toNatClampNeg = L + t := cl_k (by omega)
    have l0 := apM_len (byM a1 a2 a3 a4 a5) h t
    have hr : nI t - nI t / 4 * 4 = nI (t % 4) := by rw [show (4 : Int32) = nI 4 from rfl]; exact pk_rem (by omega) (by decide) (by decide)
    have hs : (24 : Int32) - 8 * nI (t % 4) = nI (24 - 8 * (t % 4)) := by
      rw [show (24 : Int32) = nI 24 from rfl, show (8 : Int32) = nI 8 from rfl, pk_mul, pk_sub (by omega)]
    have step : f_X9_feed_71 csF N (f_X9_feed_18 csF N n) a1 a2 a3 a4 a5 (nI t) (argF a1 a2 a3 a4 a5 t) (apM (byM a1 a2 a3 a4 a5) L t S) = some (nI (L + 20), apM (byM a1 a2 a3 a4 a5) L 20 S) := by
      have := ih n (t + 1) (by omega) (by omega)
      simp [f_X9_feed_71, mcF, cnt, ck_t, lt_s_, l0, i0, c0, hr, hs, gi_ui, nI_1]
      rw [← this]
      simp [apM, byM, shF, Nat.add_assoc]
    have q4 : (4 : Int32) ≤ nI t ↔ 4 ≤ t := hle 4 (by decide)
    have q8 : (8 : Int32) ≤ nI t ↔ 8 ≤ t := hle 8 (by decide)
    have q12 : (12 : Int32) ≤ nI t ↔ 12 ≤ t := hle 12 (by decide)
    have q16 : (16 : Int32) ≤ nI t ↔ 16 ≤ t := hle 16 (by decide)
    rw [f_X9_feed_18, if_neg h20]
    by_cases p4 : 4 ≤ t
    · rw [if_pos (q4.mpr p4)]
      by_cases p8 : 8 ≤ t
      · rw [if_pos (q8.mpr p8)]
        by_cases p12 : 12 ≤ t
        · rw [if_pos (q12.mpr p12)]
          by_cases p16 : 16 ≤ t
          · rw [if_pos (q16.mpr p16)]
            rw [show argF a1 a2 a3 a4 a5 t = a5 by unfold argF; rw [if_neg (by omega), if_neg (by omega), if_neg (by omega), if_neg (by omega)]] at step
            exact step
          · rw [if_neg (fun x => p16 (q16.mp x))]
            rw [show argF a1 a2 a3 a4 a5 t = a4 by unfold argF; rw [if_neg (by omega), if_neg (by omega), if_neg (by omega), if_pos (by omega)]] at step
            exact step
        · rw [if_neg (fun x => p12 (q12.mp x))]
          rw [show argF a1 a2 a3 a4 a5 t = a3 by unfold argF; rw [if_neg (by omega), if_neg (by omega), if_pos (by omega)]] at step
          exact step
      · rw [if_neg (fun x => p8 (q8.mp x))]
        rw [show argF a1 a2 a3 a4 a5 t = a2 by unfold argF; rw [if_neg (by omega), if_pos (by omega)]] at step
        exact step
    · rw [if_neg (fun x => p4 (q4.mp x))]
      rw [show argF a1 a2 a3 a4 a5 t = a1 by unfold argF; rw [if_pos (by omega)]] at step
      exact step
theorem op_feed (N : Nat) (hN : 30 ≤ N) (a1 a2 a3 a4 a5 : Int32) : OpOk (f_X8_feed csF N a1 a2 a3 a4 a5) (f_X9_feed csF N a1 a2 a3 a4 a5) := by
  intro S hI
  obtain ⟨hA, hF, hH, hP, hO, hR, hT, hE, hB⟩ := id hI
  obtain ⟨t1, t2, t3⟩ := id hT
  obtain ⟨eL, hL⟩ := nat_rg t2
  generalize hLL : nat (gi S 30 0 24) = L at eL hL
  have eC : gi S 9 0 0 = nI L := t1.trans eL
  have hle : nI L + 20 ≤ 500 ↔ L + 20 ≤ 500 := by
    rw [show (20 : Int32) = nI 20 from rfl, show (500 : Int32) = nI 500 from rfl, nI_add]
    exact nI_leI (by omega) (by omega)
  by_cases h : L + 20 ≤ 500
  · have hbb : ∀ m i, i < 4 → m % 4 = 0 → byC a1 a2 a3 a4 a5 (m + i) = (argF a1 a2 a3 a4 a5 m >>> (nI (24 - 8 * i) &&& 31)).toInt8.toInt32 ∨ ¬ (m = 0 ∨ m = 4 ∨ m = 8 ∨ m = 12 ∨ m = 16) := by
      intro m i hi hm
      by_cases q : m = 0 ∨ m = 4 ∨ m = 8 ∨ m = 12 ∨ m = 16
      · left
        unfold byC shF
        rw [show (m + i) % 4 = i by omega]
        have : argF a1 a2 a3 a4 a5 (m + i) = argF a1 a2 a3 a4 a5 m := by
          unfold argF
          rcases q with rfl | rfl | rfl | rfl | rfl
          · rw [if_pos (by omega), if_pos (by omega)]
          · rw [if_neg (by omega), if_pos (by omega), if_neg (by omega), if_pos (by omega)]
          · rw [if_neg (by omega), if_neg (by omega), if_pos (by omega), if_neg (by omega), if_neg (by omega), if_pos (by omega)]
          · rw [if_neg (by omega), if_neg (by omega), if_neg (by omega), if_pos (by omega), if_neg (by omega), if_neg (by omega), if_neg (by omega), if_pos (by omega)]
          · rw [if_neg (by omega), if_neg (by omega), if_neg (by omega), if_neg (by omega), if_neg (by omega), if_neg (by omega), if_neg (by omega), if_neg (by omega)]
        rw [this]
      · exact Or.inr q
    have p0 := X7_put_eq N (by omega) a1 (byC a1 a2 a3 a4 a5) (L := L) (m := 0) eC (by omega) (fun i hi => ((hbb 0 i hi rfl).resolve_right (fun q => q (by simp))))
    have p1 := X7_put_eq N (by omega) a2 (byC a1 a2 a3 a4 a5) (L := L) (m := 4) eC (by omega) (fun i hi => ((hbb 4 i hi rfl).resolve_right (fun q => q (by simp))))
    have p2 := X7_put_eq N (by omega) a3 (byC a1 a2 a3 a4 a5) (L := L) (m := 8) eC (by omega) (fun i hi => ((hbb 8 i hi rfl).resolve_right (fun q => q (by simp))))
    have p3 := X7_put_eq N (by omega) a4 (byC a1 a2 a3 a4 a5) (L := L) (m := 12) eC (by omega) (fun i hi => ((hbb 12 i hi rfl).resolve_right (fun q => q (by simp))))
    have p4 := X7_put_eq N (by omega) a5 (byC a1 a2 a3 a4 a5) (L := L) (m := 16) eC (by omega) (fun i hi => ((hbb 16 i hi rfl).resolve_right (fun q => q (by simp))))
    have e0 : apC (byC a1 a2 a3 a4 a5) L 0 S = S := rfl
    rw [e0] at p0
    simp only [Nat.reduceAdd] at p0 p1 p2 p3 p4
    have gC : f_X8_feed csF N a1 a2 a3 a4 a5 S = some (nI (L + 20), apC (byC a1 a2 a3 a4 a5) L 20 S) := by
      simp [f_X8_feed, mcF, cnt, ck_t, ob_s, eC, hle.mpr h, p0, p1, p2, p3, p4, apC_len _ eC]
    generalize hS1 : apC (byC a1 a2 a3 a4 a5) L 20 S = S1 at gC
    have m1 : Md ml_X8_feed S S1 := md_X8_feed _ _ _ _ _ _ _ _ _ _ gC
    have k24 : gi S1 30 0 24 = nI L := (m1.gi _ _ _ rfl).trans eL
    have lp := X9_feed_loop N a1 a2 a3 a4 a5 k24 h 20 N 0 (by omega) (by omega)
    have e0' : apM (byM a1 a2 a3 a4 a5) L 0 S1 = S1 := rfl
    rw [e0', show nI 0 = 0 from rfl] at lp
    have gM : f_X9_feed csF N a1 a2 a3 a4 a5 S1 = some (nI (L + 20), apM (byM a1 a2 a3 a4 a5) L 20 S1) := by
      simp [f_X9_feed, mcF, cnt, ck_t, k24, hle.mpr h, lp]
    generalize hS2 : apM (byM a1 a2 a3 a4 a5) L 20 S1 = S2 at gM
    have m2 : Md ml_X9_feed S1 S2 := md_X9_feed _ _ _ _ _ _ _ _ _ _ gM
    have hm := m1.app m2
    refine ⟨nI (L + 20), S1, S2, gC, gM, IvA_md hm rfl rfl rfl rfl rfl rfl hA, IvF_md hm (fun _ => rfl) (fun _ => rfl) (fun _ => rfl) (fun _ => rfl) (fun _ => rfl) hF, IvH_md hm (fun _ _ => rfl) (fun _ => rfl) hH, IvP_md hm (fun _ _ => rfl) (fun _ => rfl) (fun _ => rfl) (fun _ => rfl) hP, IvO_md hm rfl (fun _ _ => rfl) (pm_r (by decide)) hO, IvR_md hm rfl rfl (fun _ _ => rfl) (fun _ _ => rfl) (fun _ _ => rfl) (fun _ => rfl) (fun _ => rfl) (fun _ => rfl) hR, ?_, IvE_md hm rfl rfl rfl rfl hE, IvB_md hm rfl rfl rfl rfl (fun _ => rfl) (fun _ _ => rfl) (fun _ _ => rfl) (fun _ _ => rfl) (fun _ _ => rfl) (fun _ _ => rfl) (fun _ _ => rfl) (fun _ _ => rfl) hB⟩
    have l2 : gi S2 30 0 24 = nI (L + 20) := by rw [← hS2]; exact apM_len _ k24 20
    have l1 : gi S2 9 0 0 = nI (L + 20) := by rw [m2.gi 9 0 0 rfl, ← hS1]; exact apC_len _ eC 20
    unfold IvT
    rw [l1, l2]
    refine ⟨rfl, nI_rg (by omega) (by omega) (by omega), fun j hj => ?_⟩
    rw [nI_toInt (by omega)] at hj
    rw [m2.gi 10 0 j rfl, ← hS2, ← hS1, apM_at, apC_at]
    by_cases q : L ≤ j ∧ j < L + 20
    · rw [if_pos q, if_pos q]
      exact ⟨byM_rg _ _ _ _ _ _, byC_M _ _ _ _ _ _⟩
    · rw [if_neg q, if_neg q, hS1, m1.gi 31 18 j rfl]
      exact t3 j (by rw [eL, nI_toInt (by omega)]; omega)
  · refine ⟨-1, S, S, ?_, ?_, hI⟩
    · simp [f_X8_feed, mcF, cnt, ck_t, eC, hle, h]
    · simp [f_X9_feed, mcF, cnt, ck_t, eL, hle, h]
