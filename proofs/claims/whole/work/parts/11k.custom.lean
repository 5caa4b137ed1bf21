theorem X9_tells_eq (N : Nat) (hN : 60 ≤ N) {i wh : Nat} {ns : List Nat} (hi : i < 24) (hl : lnOk wh ns) {S : HS} {r : R3} (hr : RtM S r) (hn : LnM S i wh ns) : ∃ Z, f_X9_tells csF N (nI i) S = some ((), Z) ∧ RtM Z (apC3 wh ns r) := by
  have m30 : mc csF 30 0 = true := mF (by decide) (by decide)
  have m16 : mc csF 31 16 = true := mF (by decide) (by decide)
  have m17 : mc csF 31 17 = true := mF (by decide) (by decide)
  have m19 : mc csF 31 19 = true := mF (by decide) (by decide)
  have e0 : (4 : Int32) * nI i = nI (4 * i) := by rw [show (4 : Int32) = nI 4 from rfl, pk_mul]
  have e1 : (4 : Int32) * nI i + 1 = nI (4 * i + (0 + 1)) := by rw [show (1 : Int32) = nI 1 from rfl, ix4]
  have e2 : (4 : Int32) * nI i + 2 = nI (4 * i + (1 + 1)) := by rw [show (2 : Int32) = nI 2 from rfl, ix4]
  have e3 : (4 : Int32) * nI i + 3 = nI (4 * i + (2 + 1)) := by rw [show (3 : Int32) = nI 3 from rfl, ix4]
  rw [f_X9_tells, m30, ck_t, m19, ck_t, e1, inb_k (by omega) (by decide), ck_t, lt_s_, e2, inb_k (by omega) (by decide), ck_t, lt_s_, e3, inb_k (by omega) (by decide), ck_t, lt_s_, e0, inb_k (by omega) (by decide), ck_t, cl_k (by omega), cl_k (by omega), cl_k (by omega), cl_k (by omega), hn.1]
  rcases hl with ⟨rfl, h0, h1, h2⟩ | ⟨rfl, h0, h1, h2, h3⟩ | ⟨rfl, h0, h1, h2, h3⟩ | ⟨rfl, h0, h1⟩
  · rw [hn.2 0 (by omega), hn.2 1 (by omega), if_pos (by decide), m16, ck_t, inb_k h1 (by decide), ck_t, lt_s_, cl_k (by omega)]
    obtain ⟨Z, z1, z2, z3, z4⟩ := tl78 N h1 4 N 0 (ui S 31 16 (ns.getD 0 0) (nI (ns.getD 1 0))) rfl (by omega) (fun v hv => by omega)
    refine ⟨Z, z1, fun p hp => ?_⟩
    obtain ⟨q1, q2, q3⟩ := hr p hp
    unfold apC3
    simp only [if_true]
    by_cases e : p = ns.getD 0 0
    · rw [if_pos e]
      refine ⟨by rw [z2.gi _ _ _ rfl, e, gi_ui_s], fun _ f hf => by rw [if_pos e, e]; exact z4 f hf, fun w hw => by rw [z2.gi _ _ _ rfl, gi_ui_c _ _ _ _ _ _ (by decide)]; exact q3 w hw⟩
    · rw [if_neg e]
      refine ⟨by rw [z2.gi _ _ _ rfl, gi_ui_j _ _ _ _ _ _ e]; exact q1, fun hh f hf => by rw [if_neg e, z3 _ (by omega), gi_ui_k _ _ _ _ _ _ (by decide)]; exact q2 hh f hf, fun w hw => by rw [z2.gi _ _ _ rfl, gi_ui_c _ _ _ _ _ _ (by decide)]; exact q3 w hw⟩
  · rw [hn.2 0 (by omega), hn.2 1 (by omega), hn.2 2 (by omega), if_neg (by decide), if_pos (by decide), m17, ck_t, ix4, inb_k (by omega) (by decide), ck_t, ck_t, ck_t, ck_t, cl_k (by omega), lt_s_, lt_s_]
    have hu : ∀ v, RtM (ui S 31 17 (4 * ns.getD 0 0 + ns.getD 1 0) v) (r.1, fun q f => if q = ns.getD 0 0 ∧ f = ns.getD 1 0 then v else r.2.1 q f, r.2.2) := fun v p hp => by
      obtain ⟨q1, q2, q3⟩ := hr p hp
      refine ⟨by rw [gi_ui_k _ _ _ _ _ _ (by decide)]; exact q1, fun hh f hf => ?_, fun w hw => by rw [gi_ui_c _ _ _ _ _ _ (by decide)]; exact q3 w hw⟩
      by_cases e : p = ns.getD 0 0 ∧ f = ns.getD 1 0
      · show _ = if p = ns.getD 0 0 ∧ f = ns.getD 1 0 then v else r.2.1 p f
        rw [if_pos e, e.1, e.2, gi_ui_s]
      · show _ = if p = ns.getD 0 0 ∧ f = ns.getD 1 0 then v else r.2.1 p f
        rw [if_neg e, gi_ui_j _ _ _ _ _ _ (by omega)]
        exact q2 hh f hf
    have key : ∀ v, (¬ r.1 (ns.getD 0 0) = -1 → v = if r.2.1 (ns.getD 0 0) (ns.getD 1 0) < nI (ns.getD 2 0) then nI (ns.getD 2 0) else r.2.1 (ns.getD 0 0) (ns.getD 1 0)) → RtM (ui S 31 17 (4 * ns.getD 0 0 + ns.getD 1 0) v) (apC3 6 ns r) := fun v hv p hp => by
      obtain ⟨u1, u2, u3⟩ := hu v p hp
      unfold apC3
      simp only [if_neg (show ¬ (6 : Nat) = 4 by decide), if_true]
      refine ⟨u1, fun hh f hf => ?_, u3⟩
      rw [u2 hh f hf]
      show (if p = ns.getD 0 0 ∧ f = ns.getD 1 0 then v else r.2.1 p f) = _
      by_cases e : p = ns.getD 0 0 ∧ f = ns.getD 1 0
      · rw [if_pos e, if_pos e, e.1, e.2]
        exact hv (by rw [← e.1]; exact hh)
      · rw [if_neg e, if_neg e]
    obtain ⟨q1, q2, q3⟩ := hr (ns.getD 0 0) h1
    by_cases c : gi S 31 17 (4 * ns.getD 0 0 + ns.getD 1 0) ≤ nI (ns.getD 2 0)
    · rw [if_pos c]
      refine ⟨_, rfl, key _ (fun hh => ?_)⟩
      rw [q2 hh _ h2] at c
      by_cases d : r.2.1 (ns.getD 0 0) (ns.getD 1 0) < nI (ns.getD 2 0)
      · rw [if_pos d]
      · rw [if_neg d]
        rw [i_le] at c
        rw [i_lt] at d
        rw [i_eq]
        omega
    · rw [if_neg c]
      refine ⟨_, rfl, key _ (fun hh => ?_)⟩
      rw [q2 hh _ h2] at c ⊢
      rw [if_neg (fun d => c (by rw [i_lt] at d; rw [i_le]; omega))]
  · rw [hn.2 0 (by omega), hn.2 1 (by omega), hn.2 2 (by omega), if_neg (by decide), if_neg (by decide), if_pos (by decide)]
    obtain ⟨Z, z1, z2, z3⟩ := tl151 N h1 h3 (ns.getD 2 0 + 1 - ns.getD 1 0) N (ns.getD 1 0) S (by omega) (by omega)
    refine ⟨Z, z1, fun p hp => ?_⟩
    obtain ⟨q1, q2, q3⟩ := hr p hp
    unfold apC3
    simp only [if_neg (show ¬ (9 : Nat) = 4 by decide), if_neg (show ¬ (9 : Nat) = 6 by decide), if_true]
    refine ⟨by rw [z2.gi _ _ _ rfl]; exact q1, fun hh f hf => by rw [z2.gi _ _ _ rfl]; exact q2 hh f hf, fun w hw => ?_⟩
    rw [z3]
    by_cases e : p = ns.getD 0 0
    · rw [decide_eq_true e, Bool.true_and, ← e]
      by_cases c : ns.getD 1 0 ≤ w ∧ w ≤ ns.getD 2 0
      · rw [if_pos (by omega), decide_eq_true c.1, decide_eq_true c.2]
        simp
      · rw [if_neg (by omega)]
        have : (decide (ns.getD 1 0 ≤ w) && decide (w ≤ ns.getD 2 0)) = false := by
          simp only [Bool.and_eq_false_iff, decide_eq_false_iff_not]
          omega
        rw [this, Bool.or_false]
        exact q3 w hw
    · rw [decide_eq_false e, Bool.false_and, Bool.or_false, if_neg (by omega)]
      exact q3 w hw
  · rw [hn.2 0 (by omega), if_neg (by decide), if_neg (by decide), if_neg (by decide), m16, ck_t, inb_k h1 (by decide), ck_t, lt_s_, cl_k (by omega)]
    refine ⟨_, rfl, fun p hp => ?_⟩
    obtain ⟨q1, q2, q3⟩ := hr p hp
    unfold apC3
    simp only [if_neg (show ¬ (11 : Nat) = 4 by decide), if_neg (show ¬ (11 : Nat) = 6 by decide), if_neg (show ¬ (11 : Nat) = 9 by decide)]
    by_cases e : p = ns.getD 0 0
    · rw [if_pos e]
      exact ⟨by rw [e, gi_ui_s], fun hh => absurd rfl hh, fun w hw => by rw [gi_ui_c _ _ _ _ _ _ (by decide)]; exact q3 w hw⟩
    · rw [if_neg e]
      exact ⟨by rw [gi_ui_j _ _ _ _ _ _ e]; exact q1, fun hh f hf => by rw [if_neg e, gi_ui_k _ _ _ _ _ _ (by decide)]; exact q2 hh f hf, fun w hw => by rw [gi_ui_c _ _ _ _ _ _ (by decide)]; exact q3 w hw⟩
theorem foR_take {ls : List (Nat × List Nat)} {i : Nat} (h : i < ls.length) : foR (ls.take (i + 1)) = apC3 (ls.getD i (0, [])).1 (ls.getD i (0, [])).2 (foR (ls.take i)) := by
  rw [List.take_add_one, List.getElem?_eq_getElem h]
  show foR (ls.take i ++ [ls[i]]) = _
  rw [foR_app]
  simp [h]
theorem cl148 (N : Nat) (hN : 60 ≤ N) {ls : List (Nat × List Nat)} (hl : ls.length ≤ 24) (hok : ∀ l, l ∈ ls → lnOk l.1 l.2) : ∀ (m n i : Nat) (S : HS), i + m = ls.length → m < n → RtM S (foR (ls.take i)) → LsM S ls → gi S 30 0 32 = nI ls.length → ∃ Z, f_X9_custom_148 csF N n (nI i) S = some (nI ls.length, Z) ∧ RtM Z (foR ls) ∧ Md ml_X9_tells S Z := by
  intro m
  induction m with
  | zero =>
    intro n i S h1 h2 hr hL e
    obtain ⟨n, rfl⟩ : ∃ k, n = k + 1 := ⟨n - 1, by omega⟩
    refine ⟨S, ?_, ?_, Md.rf _ S⟩
    · rw [f_X9_custom_148, mF (by decide) (by decide), ck_t, e, if_pos (by rw [nI_leI (by omega) (by omega)]; omega)]
    · rw [List.take_of_length_le (by omega)] at hr; exact hr
  | succ m ih =>
    intro n i S h1 h2 hr hL e
    obtain ⟨n, rfl⟩ : ∃ k, n = k + 1 := ⟨n - 1, by omega⟩
    have hmem : ls.getD i (0, []) ∈ ls := by simp [show i < ls.length by omega]
    obtain ⟨Z, z1, z2⟩ := X9_tells_eq N hN (show i < 24 by omega) (hok _ hmem) hr (hL i (by omega))
    have zm : Md ml_X9_tells S Z := md_X9_tells _ _ _ _ _ _ z1
    obtain ⟨Z', y1, y2, y3⟩ := ih n (i + 1) Z (by omega) (by omega) (by rw [foR_take (by omega)]; exact z2) (hL.md zm (fun _ => rfl)) ((zm.gi _ _ _ rfl).trans e)
    refine ⟨Z', ?_, y2, zm.trans y3⟩
    rw [f_X9_custom_148, mF (by decide) (by decide), ck_t, e, if_neg (by rw [nI_leI (by omega) (by omega)]; omega), z1, ob_s, lt_s_, nI_1]
    exact y1
abbrev mlCf : List (Nat × Option Nat × Option Nat) := [(30, some 0, some 24), (30, some 0, some 25), (30, some 0, some 26), (30, some 0, some 27), (30, some 0, some 28), (30, some 0, some 29), (30, some 0, some 30), (30, some 0, some 31), (30, some 0, some 32), (30, some 0, some 33), (30, some 0, some 34), (31, some 19, none)]
theorem X9_custom_eq (N : Nat) (hN : 501 ≤ N) {L : Nat} {t : Nat → Nat} (hL : L ≤ 500) (ht : ∀ j, t j < 256) (S : HS) (hT : TpM S L t) : match prS t L 25 [] (tokS t L 0) with
    | .inl f => ∃ Z, f_X9_custom csF N S = some (-1, Z) ∧ Md mlCf S Z ∧ gi Z 30 0 24 = 0 ∧ gi Z 30 0 31 = nI f.1 ∧ gi Z 30 0 34 = nI f.2
    | .inr ls => ∃ Z, f_X9_custom csF N S = some (nI ls.length, Z) ∧ RtM Z (foR ls) ∧ gi Z 30 0 24 = 0 ∧ gi Z 30 0 31 = 0 ∧ gi Z 30 0 34 = -1 := by
  have m30 : mc csF 30 0 = true := mF (by decide) (by decide)
  have m3 : Md mlCf S (ui (ui (ui S 30 0 29 0) 30 0 25 0) 30 0 32 0) := (((Md.rf _ S).ui rfl rfl).ui rfl rfl).ui rfl rfl
  have m3' : Md [(30, some 0, some 25), (30, some 0, some 29), (30, some 0, some 32)] S (ui (ui (ui S 30 0 29 0) 30 0 25 0) 30 0 32 0) := (((Md.rf _ S).ui rfl rfl).ui rfl rfl).ui rfl rfl
  have hT1 : TpM (ui (ui (ui S 30 0 29 0) 30 0 25 0) 30 0 32 0) L t := hT.md m3' rfl (fun _ => rfl)
  obtain ⟨Z1, y1, y2, y3⟩ := X9_token N hN hL ht hT1 (p := 0) (by simp [gi_ui]; rfl) (by omega)
  obtain ⟨r1, r2, r3, r4, -⟩ := tok_rng t (L := L) (p := 0) (by omega)
  have hok' : tokOk L (tokS t L 0) := ⟨r1, r2, r4, by have := val_lt t L 0; omega⟩
  obtain ⟨a, Z2, x1, x2, x3⟩ := X9_custom_loop N hN hL ht 25 N [] (tokS t L 0) Z1 rfl (by omega) (by omega) (hT1.md y3 rfl (fun _ => rfl)) y2 hok' (fun l hl => by simp at hl) (fun i hi => by simp at hi) (by rw [y3.gi _ _ _ rfl, gi_ui_s]; rfl) (by rw [y3.gi _ _ _ rfl]; simp [gi_ui])
  have e : f_X9_custom csF N S = f_X9_custom_40 csF N a Z2 := by
    rw [f_X9_custom, m30, ck_t, lt_s_, lt_s_, lt_s_, y1, ob_s]
    exact x1
  have m2 : Md mlCf S Z2 := (m3.trans (y3.mono (by simp))).trans (x2.mono (by simp))
  rw [e, f_X9_custom_40, m30, ck_t, lt_s_, lt_s_]
  cases hp : prS t L 25 [] (tokS t L 0) with
  | inl f =>
    rw [hp] at x3
    obtain ⟨rfl, x4, x5⟩ := x3
    show ∃ Z, _
    refine ⟨ui (ui (ui Z2 30 0 24 0) 30 0 31 (gi (ui Z2 30 0 24 0) 30 0 29)) 30 0 34 (gi (ui (ui Z2 30 0 24 0) 30 0 31 (gi (ui Z2 30 0 24 0) 30 0 29)) 30 0 30), ?_, ((m2.ui rfl rfl).ui rfl rfl).ui rfl rfl, ?_, ?_, ?_⟩
    · rw [if_pos rfl, f_X9_custom_66, m30, ck_t, lt_s_, if_pos rfl]
    · simp [gi_ui]
    · simp [gi_ui]; exact x4
    · simp [gi_ui]; exact x5
  | inr ls =>
    rw [hp] at x3
    obtain ⟨rfl, x4, x5, x6⟩ := x3
    show ∃ Z, _
    obtain ⟨l1, l2⟩ := prS_ok 25 [] (tokS t L 0) ls (by simp) (fun l hl => by simp at hl) hp
    have mu : Md [(30, some 0, some 24), (30, some 0, some 31), (30, some 0, some 34)] Z2 (ui (ui (ui Z2 30 0 24 0) 30 0 31 (gi (ui Z2 30 0 24 0) 30 0 29)) 30 0 34 (-1)) := (((Md.rf _ Z2).ui rfl rfl).ui rfl rfl).ui rfl rfl
    obtain ⟨Z3, w1, w2, w3⟩ := cl77 N (by omega) 6 N 0 (ui (ui (ui Z2 30 0 24 0) 30 0 31 (gi (ui Z2 30 0 24 0) 30 0 29)) 30 0 34 (-1)) rfl (by omega) (fun q hq => by omega)
    obtain ⟨Z4, v1, v2, v3⟩ := cl148 N (by omega) l1 l2 ls.length N 0 Z3 (by omega) (by omega) (fun p hp => by
      obtain ⟨c1, c2, c3⟩ := w3 p hp
      exact ⟨c1, fun _ f hf => c2 f hf, fun w hw => c3 w hw⟩) ((x4.md mu (fun _ => rfl)).md w2 (fun _ => rfl)) (by rw [w2.gi _ _ _ rfl, mu.gi _ _ _ rfl]; exact x5)
    refine ⟨Z4, ?_, v2, ?_, ?_, ?_⟩
    · rw [if_neg (by decide), f_X9_custom_66, m30, ck_t, lt_s_, if_neg (by decide)]
      rw [show nI 0 = 0 from rfl] at w1 v1
      rw [w1, v1]
    · rw [v3.gi _ _ _ rfl, w2.gi _ _ _ rfl]; simp [gi_ui]
    · rw [v3.gi _ _ _ rfl, w2.gi _ _ _ rfl]; simp [gi_ui]; exact x6
    · rw [v3.gi _ _ _ rfl, w2.gi _ _ _ rfl]; simp [gi_ui]
