def dsum (h : Nat → Nat) (c : Nat) : Nat := (if c ≤ 0 then h 0 else 0) + (if c ≤ 1 then h 1 else 0) + (if c ≤ 2 then h 2 else 0) + (if c ≤ 3 then h 3 else 0)
theorem dsum_s (h : Nat → Nat) {c : Nat} (hc : c < 4) : dsum h c = dsum h (c + 1) + h c := by
  unfold dsum
  rcases (show c = 0 ∨ c = 1 ∨ c = 2 ∨ c = 3 by omega) with rfl | rfl | rfl | rfl <;> simp <;> omega
theorem dsum_4 (h : Nat → Nat) : dsum h 4 = 0 := by unfold dsum; simp
theorem ssQ_s (Q : Nat → Nat) (m : Nat) {c : Nat} (hc : c < 3) : ssQ Q m (c + 1) ^^^ Q (c + 1) = ssQ Q m c := by
  rcases (show c = 0 ∨ c = 1 ∨ c = 2 by omega) with rfl | rfl | rfl <;> rfl
theorem ssQ_lt {Q : Nat → Nat} {m : Nat} (h : ∀ f, f < 4 → Q f < 2 ^ m) (F : Nat) : ssQ Q m F < 2 ^ m := by
  have hp := Nat.two_pow_pos m
  have a : 2 ^ m - 1 < 2 ^ m := by omega
  have b := Nat.xor_lt_two_pow a (h 3 (by decide))
  have c := Nat.xor_lt_two_pow b (h 2 (by decide))
  have d := Nat.xor_lt_two_pow c (h 1 (by decide))
  unfold ssQ
  split
  · exact d
  · exact c
  · exact b
  · exact a
/-- between two families -/
def TwO (S : HS) (D : Pb) (l0 : List Nat) (Q g : Nat → Nat) (c : Nat) : Prop := gi S 12 0 0 = nI (dsum (fun f => sPr D (sel l0 (Q f))) c) ∧ gi S 12 0 1 = nI (dsum (fun f => sWk D f (sel l0 (Q f))) c) ∧ ∀ i, i < 7 → ((c ≤ g i ∧ g i < 4) ∧ ToldAt S D (g i) (sel l0 (Q (g i))) i) ∨ (¬ (c ≤ g i ∧ g i < 4) ∧ Blk S i)
theorem tw63 (N : Nat) (hN : 60 ≤ N) {D : Pb} {l0 : List Nat} {Q g : Nat → Nat} (hl : l0.length ≤ 7) (hm : ∀ j, j ∈ l0 → j < D 0 0 1 ∧ D 8 j 0 = 1) (hQ : ∀ f, f < 4 → Q f < 2 ^ l0.length) (hC : ∀ f, f < 4 → canD D f (sel l0 (Q f))) (hg : ∀ f, f < 4 → ∀ i, i ∈ sel l0 (Q f) ↔ g i = f) (rr : Nat) : ∀ (c n : Nat) (v5 : Int32) (S : HS), c ≤ 4 → c < n → (0 < c → v5 = nI (ssQ Q l0.length (c - 1))) → Fx S D → rkC S = rr → RowC S l0 → (∀ f, f < 4 → gi S 19 f (ssQ Q l0.length f) = nI (Q f)) → TwO S D l0 Q g c → ∃ Z, f_X4_tellWay_63 csF N n rr (nI (D 0 0 0)) v5 (nI c + -1) S = some ((), Z) ∧ TwO Z D l0 Q g 0 := by
  have hp := pw_le hl
  intro c
  induction c with
  | zero =>
    intro n v5 S h1 h2 h3 hx hr hR hG hT
    obtain ⟨n, rfl⟩ : ∃ k, n = k + 1 := ⟨n - 1, by omega⟩
    refine ⟨S, ?_, hT⟩
    rw [f_X4_tellWay_63, if_pos (by decide)]
  | succ c ih =>
    intro n v5 S h1 h2 h3 hx hr hR hG hT
    obtain ⟨n, rfl⟩ : ∃ k, n = k + 1 := ⟨n - 1, by omega⟩
    have hc : c < 4 := by omega
    have ha := hx.a
    have h5 := h3 (by omega)
    rw [show c + 1 - 1 = c by omega] at h5
    subst h5
    have hss := ssQ_lt hQ c
    have hw : D 0 0 0 < 52 := by omega
    have hh := hx.h hc hw
    have m2 : Md [(14, some 0, some 0), (14, some 0, some 1)] S (ui (ui S 14 0 0 (nI (D 0 0 0))) 14 0 1 (nI (D 2 c (D 0 0 0)))) := ((Md.rf _ S).ui rfl rfl).ui rfl rfl
    obtain ⟨t1, t2, t3⟩ := hT
    obtain ⟨Z1, z1, z2, z3⟩ := tw109 N hN (f_X4_tellWay_63 csF N n) (nI (ssQ Q l0.length c)) (P := dsum (fun f => sPr D (sel l0 (Q f))) (c + 1)) (W := dsum (fun f => sWk D f (sel l0 (Q f))) (c + 1)) hc hl hm (hQ c hc) (hC c hc) (hg c hc) rr l0.length N 0 (ui (ui S 14 0 0 (nI (D 0 0 0))) 14 0 1 (nI (D 2 c (D 0 0 0)))) (by omega) (by omega) (hx.sub m2 (by decide)) (by rw [rkC_md m2 rfl]; exact hr) (hR.md m2 rfl (fun _ => rfl)) (by
      refine ⟨⟨st0 D c, rfl, by simp [gi_ui]; rfl, by simp [gi_ui]; rfl, ha.2.2.2.2.1, hh.2.2⟩, ?_, ?_, fun i hi => ?_⟩
      · rw [m2.gi 12 0 0 rfl, t1]; rfl
      · rw [m2.gi 12 0 1 rfl, t2]; rfl
      · have e : ((c < g i ∧ g i < 4) ∨ i ∈ selN l0 0 (Q c)) ↔ (c + 1 ≤ g i ∧ g i < 4) := by simp [selN]; omega
        rw [e]
        unfold ToldAt Blk
        rw [m2.gi 13 0 i rfl, m2.gi 13 1 i rfl, m2.gi 13 2 i rfl]
        exact t3 i hi)
    have m3 := m2.app z3
    obtain ⟨Z, y1, y2⟩ := ih n (nI (ssQ Q l0.length c) ^^^ nI (Q c)) Z1 (by omega) (by omega) (fun hc0 => by
      obtain ⟨d, rfl⟩ : ∃ d, c = d + 1 := ⟨c - 1, by omega⟩
      rw [nI_xor, ssQ_s Q l0.length (by omega)]
      rfl) ((hx.sub m2 (by decide)).sub z3 (by decide)) (by rw [rkC_md z3 rfl, rkC_md m2 rfl]; exact hr) ((hR.md m2 rfl (fun _ => rfl)).md z3 rfl (fun _ => rfl)) (fun f hf => by rw [m3.gi 19 _ _ rfl]; exact hG f hf) (by
      obtain ⟨-, u2, u3, u4⟩ := z2
      rw [← sel_k (hQ c hc) hl] at u2 u3 u4
      refine ⟨by rw [u2, dsum_s _ hc], by rw [u3, dsum_s _ hc], fun i hi => ?_⟩
      have e : ((c < g i ∧ g i < 4) ∨ i ∈ sel l0 (Q c)) ↔ (c ≤ g i ∧ g i < 4) := by
        rw [hg c hc i]; omega
      have := u4 i hi
      rw [e] at this
      exact this)
    refine ⟨Z, ?_, y2⟩
    rw [f_X4_tellWay_63, nI_m1 (by omega), if_neg (by rw [show (0 : Int32) = nI 0 from rfl, nI_ltI (by omega) (by omega)]; omega), mF (by decide) (by decide), ck_t, mF (by decide) (by decide), ck_t, inb_k hc (by decide), ck_t, cl_k (show c < 2147483648 by omega), mF (by decide) (show c < 4 from hc), ck_t, inb_k (show ssQ Q l0.length c < 128 by omega) (by decide), ck_t, cl_k (show ssQ Q l0.length c < 2147483648 by omega), lt_s_, hG c hc, mF (by decide) (by decide), ck_t, lt_s_, mF (by decide) (by decide), ck_t, ck_t, mF (by decide) (show c < 4 from hc), ck_t, mF (by decide) (show c < 4 from hc), ck_t, inb_k hw (by decide), ck_t, lt_s_, cl_k (show D 0 0 0 < 2147483648 by omega), gi_ui_c _ _ _ _ _ _ (by decide), hh.1]
    rw [show nI 0 = 0 from rfl] at z1
    rw [z1]
    exact y1
theorem tw13 (N : Nat) (rr : Nat) (v4 : Int32) : ∀ (m n i : Nat) (S : HS), i + m = 7 → m < n → (∀ j, j < i → Blk S j) → ∃ Z, f_X4_tellWay_13 csF N n rr v4 (nI i) S = f_X4_tellWay_13 csF N (n - m) rr v4 (nI 7) Z ∧ (∀ j, j < 7 → Blk Z j) ∧ Md [(13, some 0, none), (13, some 1, none), (13, some 2, none)] S Z := by
  intro m
  induction m with
  | zero =>
    intro n i S h1 h2 h3
    have e : i = 7 := by omega
    subst e
    exact ⟨S, by rw [Nat.sub_zero], h3, Md.rf _ S⟩
  | succ m ih =>
    intro n i S h1 h2 h3
    obtain ⟨n, rfl⟩ : ∃ k, n = k + 1 := ⟨n - 1, by omega⟩
    have mu : Md [(13, some 0, none), (13, some 1, none), (13, some 2, none)] S (ui (ui (ui S 13 0 i (-1)) 13 1 i (-1)) 13 2 i 0) := (((Md.rf _ S).ui rfl rfl).ui rfl rfl).ui rfl rfl
    obtain ⟨Z, z1, z2, z3⟩ := ih n (i + 1) (ui (ui (ui S 13 0 i (-1)) 13 1 i (-1)) 13 2 i 0) (by omega) (by omega) (fun j hj => by
      unfold Blk
      by_cases e : j = i
      · subst e; simp [gi_ui]
      · have := h3 j (by omega)
        unfold Blk at this
        simp [gi_ui, e]
        exact this)
    refine ⟨Z, ?_, z2, mu.trans z3⟩
    rw [f_X4_tellWay_13, if_neg (by rw [show (7 : Int32) = nI 7 from rfl, nI_leI (by omega) (by omega)]; omega), mF (by decide) (by decide), ck_t, mF (by decide) (by decide), ck_t, inb_k (show i < 7 by omega) (by decide), ck_t, lt_s_, mF (by decide) (by decide), ck_t, ck_t, lt_s_, mF (by decide) (by decide), ck_t, ck_t, lt_s_, lt_s_, cl_k (by omega), nI_1, z1]
    congr 1
    omega
theorem sum_cast (h : Nat → Nat) : ∀ l : List Nat, (((l.map h).sum : Nat) : Int) = (l.map (fun i => (h i : Int))).sum
  | [] => rfl
  | a :: l => by rw [List.map_cons, List.sum_cons, List.map_cons, List.sum_cons, Int.natCast_add, sum_cast h l]
/-- the plan that the class finds is BEST -/
theorem X4_find_eq (N : Nat) (hN : 200 ≤ N) {S : HS} {D : Pb} (hx : Fx S D) : ∃ Z, f_X4_find csF N (nI (D 0 0 1)) (rkC S) (nI (D 0 0 0)) S = some ((), Z) ∧ Fx Z D ∧ PlanOk Z := by
  obtain ⟨Z1, l0, z1, z2, z3, z4, z5, z6, z7, z8⟩ := X4_find_pre N hN hx
  have hD := hx.ok
  have hp := pw_le z6
  obtain ⟨Q, g, q1, q2, q3, q4, q5⟩ := best_Q hD z5 z6 z7 z8
  have mu : Md [(12, some 0, some 0), (12, some 0, some 1)] Z1 (ui (ui Z1 12 0 0 0) 12 0 1 0) := ((Md.rf _ Z1).ui rfl rfl).ui rfl rfl
  obtain ⟨Z2, y1, y2, y3⟩ := tw13 N (rkC S) (nI (D 0 0 0)) 7 N 0 (ui (ui Z1 12 0 0 0) 12 0 1 0) (by omega) (by omega) (fun j hj => by omega)
  have hx2 := (z2.sub mu (by decide)).sub y3 (by decide)
  have hR2 := (z4.md mu rfl (fun _ => rfl)).md y3 rfl (fun _ => rfl)
  have hG : ∀ f, f < 4 → gi Z2 19 f (ssQ Q l0.length f) = nI (Q f) := fun f hf => by
    rw [y3.gi 19 _ _ rfl, mu.gi 19 _ _ rfl]
    obtain ⟨-, -, -, -, -, d⟩ := z8 _ (ssQ_lt q1.1 f)
    rw [d f hf, q2 f hf]
  obtain ⟨Z, w1, w2⟩ := tw63 N (by omega) z6 (fun j hj => (z7 j).mp hj) q1.1 q3 q5 (rkC S) 4 N (nI (ssQ Q l0.length 3)) Z2 (by omega) (by omega) (fun _ => rfl) hx2 (by rw [rkC_md y3 rfl, rkC_md mu rfl]; exact z3) hR2 hG (by
    refine ⟨by rw [y3.gi 12 _ _ rfl, dsum_4]; simp [gi_ui]; rfl, by rw [y3.gi 12 _ _ rfl, dsum_4]; simp [gi_ui]; rfl, fun i hi => Or.inr ⟨by omega, y2 i hi⟩⟩)
  have eT : f_X4_tellWay csF N (rkC S) (nI (D 0 0 0)) Z1 = some ((), Z) := by
    rw [f_X4_tellWay, mF (by decide) (by decide), ck_t, lt_s_, lt_s_]
    rw [show nI 0 = 0 from rfl] at y1
    rw [y1]
    obtain ⟨n, hn⟩ : ∃ n, N - 7 = n + 1 := ⟨N - 8, by omega⟩
    rw [hn, f_X4_tellWay_13, if_pos (by decide), mF (by decide) (by decide), ck_t, lt_s_, hR2.1, sh_p _ (by omega)]
    have e1 : nI (2 ^ l0.length) - 1 = nI (2 ^ l0.length - 1) := nI_sb (b := 1) (Nat.two_pow_pos _) (by omega)
    rw [e1]
    exact w1
  have mT : Md ml_X4_tellWay Z1 Z := md_X4_tellWay _ _ _ _ _ _ _ eT
  have hxZ := z2.sub mT (by decide)
  refine ⟨Z, by rw [z1, eT, ob_s], hxZ, ?_⟩
  obtain ⟨t1, t2, t3⟩ := w2
  have opn := q4.1.2.1
  have row : ∀ f, f < 4 → rowOk D (sel l0 (Q f)) := fun f hf => sel_row z5 z6 (q1.1 f hf)
  have sf := fun h => sum_fam (L := fun f => sel l0 (Q f)) q4.1.1 (fun f hf => row_nd (row f hf)) (fun f hf i hi => by have h1 := (opn i (by rw [(q5 f hf i).mp hi]; exact hf)).1; have := hD.1; omega) q5 h
  unfold PlanOk
  rw [hxZ.2]
  refine ⟨g, q4, ?_, ?_, fun i hi => ?_⟩
  · rw [t1]
    congr 1
    have e : ((dsum (fun f => sPr D (sel l0 (Q f))) 0 : Nat) : Int) = prD D g := by
      unfold dsum prD
      have := sf (fun _ i => (D 6 i 0 : Int))
      simp only [sPr]
      simp
      rw [sum_cast, sum_cast, sum_cast, sum_cast]
      exact this
    rw [← e]
    rfl
  · rw [t2]
    congr 1
    have e : ((dsum (fun f => sWk D f (sel l0 (Q f))) 0 : Nat) : Int) = wkD D g := by
      unfold dsum wkD
      have := sf (fun f i => (D 3 f i : Int))
      simp only [sWk]
      simp
      rw [sum_cast, sum_cast, sum_cast, sum_cast]
      exact this
    rw [← e]
    rfl
  · rcases t3 i hi with ⟨x1, x2, l, r, b, b', x3, x4, x5, x6, x7⟩ | ⟨x1, x2⟩
    · refine Or.inr ⟨x1.2, x2, b'.1, _, ⟨l, b, b', ?_, fun j => ?_, x4, x5, rfl, rfl⟩, x6, x7⟩
      · have := row (g i) x1.2
        rw [x3, show l ++ i :: r = (l ++ [i]) ++ r by simp, row_app] at this
        exact this.1
      · have hrow := row (g i) x1.2
        rw [x3, row_app, row_cons] at hrow
        rw [← q5 (g i) x1.2 j, x3, List.mem_append, List.mem_cons]
        constructor
        · intro hj
          exact ⟨Or.inl hj, hrow.2.2 j hj i List.mem_cons_self⟩
        · rintro ⟨y | y | y, hb⟩
          · exact y
          · rw [y] at hb; exact absurd hb bef_ir
          · exact absurd hb (bef_as (hrow.2.1.1 j y))
    · exact Or.inl ⟨by omega, x2⟩
