/-! ===== work: the other's families one by one ===== -/
def nlD (D : Pb) (b : Nat × Nat) : Nat := if b.1 = D 0 0 0 then b.2 else 0
theorem lay1_ge {hr : Nat → Nat} {ok : Nat → Bool} : ∀ (m v has toDo : Nat) (bg : Bool) (b : Nat × Nat), lay1 hr ok m v has toDo bg = some b → v ≤ b.1
  | 0, _, _, _, _, _, h => by cases h
  | m + 1, v, has, toDo, bg, b, h => by
    unfold lay1 at h
    split at h
    · cases h
    · split at h
      · cases h
        exact Nat.le_refl _
      · have := lay1_ge m _ _ _ _ _ h
        omega
theorem nl_lay {D : Pb} {f i : Nat} {b b' : Nat × Nat} (h3 : 1 ≤ D 3 f i) (hb : D 0 0 0 ≤ b.1) (h : layD D f i b = some b') : D 0 0 0 ≤ b'.1 ∧ nlD D b' = nlD D b - min (D 3 f i) (nlD D b) := by
  unfold layD at h
  cases hm : D 5 i 0 + 1 - b.1 with
  | zero => rw [hm] at h; cases h
  | succ m =>
    rw [hm] at h
    unfold lay1 at h
    split at h
    · cases h
    · split at h
      · next q =>
        cases h
        refine ⟨hb, ?_⟩
        unfold nlD
        dsimp only
        by_cases e : b.1 = D 0 0 0
        · rw [if_pos e, if_pos e]
          omega
        · rw [if_neg e, if_neg e]
          omega
      · next q =>
        have := lay1_ge _ _ _ _ _ _ h
        refine ⟨by omega, ?_⟩
        unfold nlD
        rw [if_neg (show ¬ b'.1 = D 0 0 0 by omega)]
        by_cases e : b.1 = D 0 0 0
        · rw [if_pos e]
          omega
        · rw [if_neg e]
          omega
/-- the hours of now, along a row -/
def Hn (D : Pb) (f : Nat) (hn : Nat → Nat) : List Nat → Nat × Nat → Prop
  | [], _ => True
  | i :: r, b => hn i = min (D 3 f i) (nlD D b) ∧ ∃ b', layD D f i b = some b' ∧ Hn D f hn r b'
theorem Hn_of {D : Pb} {g hn : Nat → Nat} {f : Nat} {L : List Nat} (hL : rowOk D L) (hg : ∀ j, j ∈ L ↔ g j = f) (hp : ∀ i, i ∈ L → ∃ wk, planAt D g i wk (hn i)) : ∀ (r p : List Nat) (b : Nat × Nat), L = p ++ r → runD D f p (st0 D f) = some b → Hn D f hn r b
  | [], _, _, _, _ => trivial
  | i :: r, p, b, e, hb => by
    have hi : i ∈ L := by rw [e]; simp
    obtain ⟨wk, l, b0, b', q1, q2, q3, q4, q5, q6⟩ := hp i hi
    have ef : g i = f := (hg i).mp hi
    rw [ef] at q2 q3 q4 q6
    have hr := row_app.mp (show rowOk D (p ++ i :: r) by rw [← e]; exact hL)
    have hc := row_cons.mp hr.2.1
    have ep : p = l := row_uq p l hr.1 (row_app.mp q1).1 (fun j => by
      rw [q2 j]
      constructor
      · intro hj
        exact ⟨(hg j).mp (by rw [e]; exact List.mem_append_left _ hj), hr.2.2 j hj i List.mem_cons_self⟩
      · rintro ⟨a1, a2⟩
        have hjL := (hg j).mpr a1
        rw [e, List.mem_append, List.mem_cons] at hjL
        rcases hjL with x | x | x
        · exact x
        · rw [x] at a2
          exact absurd a2 bef_ir
        · exact absurd a2 (bef_as (hc.1 j x)))
    rw [← ep, hb] at q3
    have eb : b = b0 := Option.some.inj q3
    rw [← eb] at q4 q6
    refine ⟨?_, b', q4, Hn_of hL hg hp r (p ++ [i]) b' (by rw [e]; simp) ?_⟩
    · rw [q6]
      unfold nlD
      split
      · rfl
      · simp
    · simp only [run_app, hb, runD, q4]
theorem Hn_0 {D : Pb} {f : Nat} {hn : Nat → Nat} (hf : f < 4) (hD : dOk D) : ∀ (r : List Nat) (b : Nat × Nat), (∀ i, i ∈ r → i < D 0 0 1 ∧ D 8 i 0 = 1) → D 0 0 0 ≤ b.1 → nlD D b = 0 → Hn D f hn r b → ∀ j, j ∈ r → hn j = 0
  | [], _, _, _, _, _, j, hj => by cases hj
  | i :: r, b, hm, hb, h0, hH, j, hj => by
    obtain ⟨a, b', a2, a3⟩ := hH
    have hi := hm i List.mem_cons_self
    obtain ⟨x1, x2⟩ := nl_lay (hD.2.2.2.1 f i hf hi.1 hi.2).1 hb a2
    rw [List.mem_cons] at hj
    rcases hj with e | e
    · rw [e, a, h0]
      exact Nat.min_zero _
    · exact Hn_0 hf hD r b' (fun k hk => hm k (List.mem_cons_of_mem _ hk)) x1 (by rw [x2, h0]; simp) a3 j e
theorem mw26 (N : Nat) {M0 : HS} {D : Pb} {g hn wn : Nat → Nat} (hx : Mx M0 D) {f : Nat} (hf : f < 4) (hwn : ∀ i, i < D 0 0 1 → g i < 4 → nI (wn i) = gi M0 31 11 i - nI (D 3 (g i) i) + nI (hn i)) {L : List Nat} (hL : L.length ≤ 7) (hm : ∀ i, i ∈ L → i < D 0 0 1 ∧ D 8 i 0 = 1 ∧ g i = f) : ∀ (r : List Nat) (n k : Nat) (b : Nat × Nat) (T : Nat → Bool) (S : HS), L.drop k = r → k + r.length = L.length → r.length < n → r.Nodup → Md ml_X9_works M0 S → RowM S L → Wk D g hn wn T (vM S) (vM M0) → (∀ j, j ∈ r → T j = false) → nlD D b ≤ 99 → D 0 0 0 ≤ b.1 → Hn D f hn r b → ∃ Z, f_X9_works_26 csF N n (nI f) (nI (nlD D b)) (nI k) S = some ((), Z) ∧ Wk D g hn wn (fun j => T j || decide (j ∈ r)) (vM Z) (vM M0) := by
  have hD := hx.ok
  intro r
  induction r with
  | nil =>
    intro n k b T S h1 h2 h3 h4 hM hR hW hT hb hb1 hH
    obtain ⟨n, rfl⟩ : ∃ q, n = q + 1 := ⟨n - 1, by simp at h3; omega⟩
    simp at h2
    refine ⟨S, ?_, hW.cg (fun j _ => by simp)⟩
    rw [f_X9_works_26, mF (by decide) (by decide), ck_t, hR.1, if_pos (by rw [nI_leI (by omega) (by omega)]; omega)]
  | cons i r ih =>
    intro n k b T S h1 h2 h3 h4 hM hR hW hT hb hb1 hH
    obtain ⟨n, rfl⟩ : ∃ q, n = q + 1 := ⟨n - 1, by simp at h3; omega⟩
    simp at h2 h3
    have hk : k < L.length := by omega
    have ei : L.getD k 0 = i := by
      have h1' : (L.drop k)[0]? = some i := by rw [h1]; rfl
      rw [List.getElem?_drop] at h1'
      simp [List.getD] at h1' ⊢
      rw [h1']; rfl
    have hd : L.drop (k + 1) = r := by rw [← List.drop_drop, h1]; rfl
    have hrL : ∀ j, j ∈ i :: r → j ∈ L := fun j hj => by rw [← h1] at hj; exact List.mem_of_mem_drop hj
    obtain ⟨hi, hi8, hgi⟩ := hm i (hrL i List.mem_cons_self)
    have h7 := (hx.oo hi).1
    have h31 := hD.2.2.2.1 f i hf hi hi8
    rw [List.nodup_cons] at h4
    have hTi := hT i List.mem_cons_self
    have head : f_X9_works_26 csF N (n + 1) (nI f) (nI (nlD D b)) (nI k) S = if nI (nlD D b) ≤ 0 then some ((), S) else ob (f_X9_left csF N (nI f) (nI i) S) (fun r8 S9 => if nI (nlD D b) ≤ r8 then f_X9_works_67 csF N (f_X9_works_26 csF N n) (nI f) (nI (nlD D b)) (nI k) (nI i) r8 (nI (nlD D b)) S9 else f_X9_works_67 csF N (f_X9_works_26 csF N n) (nI f) (nI (nlD D b)) (nI k) (nI i) r8 r8 S9) := by
      rw [f_X9_works_26, mF (by decide) (by decide), ck_t, hR.1, if_neg (by rw [nI_leI (by omega) (by omega)]; omega), mF (by decide) (by decide), ck_t, inb_k (show k < 7 by omega) (by decide), ck_t, lt_s_, cl_k (show k < 2147483648 by omega), hR.2 k hk, ei]
    by_cases q0 : nlD D b = 0
    · refine ⟨S, by rw [head, q0, if_pos (by decide)], hW.cg (fun j hj => ?_)⟩
      by_cases jm : j ∈ i :: r
      · have hz := Hn_0 hf hD (i :: r) b (fun k hk => ⟨(hm k (hrL k hk)).1, (hm k (hrL k hk)).2.1⟩) hb1 q0 hH j jm
        obtain ⟨y1, y2, y3⟩ := hm j (hrL j jm)
        have y4 := (hD.2.2.2.1 f j hf y1 y2).1
        rcases hj with x | x
        · simp [toB, hz] at x
        · simp [dnB, hz, y3] at x
          omega
      · simp [jm]
    · obtain ⟨hni, b', hl, hH'⟩ := hH
      obtain ⟨x1, x2⟩ := nl_lay h31.1 hb1 hl
      have w0 := (hW.1 i hi).1
      have w1 := (hW.1 i hi).2.1
      have w2 := (hW.1 i hi).2.2
      rw [hTi, Bool.false_and, if_neg (by decide)] at w0 w1 w2
      have w0 : gi S 31 14 i = gi M0 31 14 i := w0
      have w1 : gi S 31 15 i = gi M0 31 15 i := w1
      have w11 : gi S 31 11 i = gi M0 31 11 i := hM.gi 31 11 i rfl
      have lf : f_X9_left csF N (nI f) (nI i) S = some (nI (D 3 f i), S) := by
        have a := (hx.l hf hi N).2.1
        rw [left_raw N M0 h7] at a
        have a := (some_e a).1
        rw [left_raw N S h7, w0, w1, w11, a]
      have mn : ∀ K : Int32 → Option (Unit × HS), (if nI (nlD D b) ≤ nI (D 3 f i) then K (nI (nlD D b)) else K (nI (D 3 f i))) = K (nI (hn i)) := fun K => by
        by_cases q : nlD D b ≤ D 3 f i
        · rw [if_pos (by rw [nI_leI (by omega) (by omega)]; exact q), hni, Nat.min_eq_right q]
        · rw [if_neg (by rw [nI_leI (by omega) (by omega)]; exact q), hni, Nat.min_eq_left (by omega)]
      have hn1 : 1 ≤ hn i := by omega
      have t1 : toB g hn i = true := by simp [toB, hgi, hf]; omega
      have h12 : gi S 31 12 i = nI (D 7 i 0) := by rw [hM.gi 31 12 i rfl]; exact (hx.o hi).2.2.1.2.1
      have h9 : gi S 31 9 i = nI (D 6 i 0) := by rw [hM.gi 31 9 i rfl]; exact (hx.o hi).2.1.2.1
      have hw := hwn i hi (by omega)
      rw [hgi, ← w11] at hw
      have m30 : mc csF 30 0 = true := mF (by decide) (by decide)
      have mm : ∀ k, k < 25 → mc csF 31 k = true := fun k hk => mF (by decide) hk
      have ii : inb (nI i) 7 = true := inb_k h7 (by decide)
      have fi : inb (nI f) 4 = true := inb_k hf (by decide)
      have ci : (nI i).toNatClampNeg = i := cl_k (by omega)
      have cf : (nI f).toNatClampNeg = f := cl_k (by omega)
      have e12 : nI (nlD D b) - nI (hn i) = nI (nlD D b') := by
        rw [nI_sb (by omega) (by omega), x2, ← hni]
      have body : f_X9_works_67 csF N (f_X9_works_26 csF N n) (nI f) (nI (nlD D b)) (nI k) (nI i) (nI (D 3 f i)) (nI (hn i)) S = lt_ (ui (ui S 31 14 i (nI (wn i))) 31 15 i (nI f)) (fun S10 => if nI (D 3 f i) ≤ nI (hn i) then lt_ (ui S10 31 13 i 1) (fun S17 => lt_ (ui S17 31 1 f (gi S17 31 1 f - gi S17 31 12 i)) (fun S24 => lt_ (ui S24 31 2 f (gi S24 31 2 f + gi S24 31 12 i)) (fun S30 => f_X9_works_26 csF N n (nI f) (nI (nlD D b')) (nI (k + 1)) (ui S30 30 0 2 (gi S30 30 0 2 + gi S30 31 9 i))))) else f_X9_works_26 csF N n (nI f) (nI (nlD D b')) (nI (k + 1)) S10) := by
        rw [f_X9_works_67, m30, mm 11 (by decide), mm 14 (by decide), mm 15 (by decide), mm 13 (by decide), mm 1 (by decide), mm 12 (by decide), mm 2 (by decide), mm 9 (by decide), ii, fi, ci, cf, ← hw]
        simp only [ck_t, lt_s_, e12, nI_1]
      have st : ∃ S', f_X9_works_26 csF N (n + 1) (nI f) (nI (nlD D b)) (nI k) S = f_X9_works_26 csF N n (nI f) (nI (nlD D b')) (nI (k + 1)) S' ∧ Wk D g hn wn (fun j => T j || decide (j = i)) (vM S') (vM M0) ∧ Md [(31, some 14, none), (31, some 15, none), (31, some 13, none), (31, some 1, none), (31, some 2, none), (30, some 0, some 2)] S S' := by
        rw [head, if_neg (by rw [show (0 : Int32) = nI 0 from rfl, nI_leI (by omega) (by omega)]; omega), lf, ob_s, mn (fun t => f_X9_works_67 csF N (f_X9_works_26 csF N n) (nI f) (nI (nlD D b)) (nI k) (nI i) (nI (D 3 f i)) t S), body, lt_s_]
        by_cases dn : hn i = D 3 f i
        · have d1 : dnB D g hn i = true := by simp [dnB, hgi, hf, dn]
          rw [if_pos (by rw [nI_leI (by omega) (by omega)]; omega), lt_s_, lt_s_, lt_s_]
          refine ⟨_, rfl, hW.step h7 hTi (fun j => rfl) ?_ ?_ ?_ (fun f' hf' => ?_) ?_ (fun j hj => ?_), ((((((Md.rf _ S).ui rfl rfl).ui rfl rfl).ui rfl rfl).ui rfl rfl).ui rfl rfl).ui rfl rfl⟩
          · rw [t1, if_pos rfl]
            simp [vM, gi_ui]
          · rw [t1, if_pos rfl]
            simp [vM, gi_ui, hgi]
          · rw [d1, if_pos rfl]
            simp [vM, gi_ui]
          · by_cases ef : f = f'
            · have vFe : Int32.ofInt (vF D g hn f' i) = nI (D 7 i 0) := by unfold vF; rw [if_pos (by simp [d1, hgi, ef]), oI_n]
              rw [vFe, ← ef]
              simp [vM, gi_ui, h12]
            · have vFe : Int32.ofInt (vF D g hn f' i) = 0 := by unfold vF; rw [if_neg (by simp [hgi, ef])]; rfl
              have ef' : ¬ f' = f := fun x => ef x.symm
              rw [vFe]
              simp [vM, gi_ui, ef']
          · have vEe : Int32.ofInt (vE D g hn i) = nI (D 6 i 0) := by unfold vE; rw [if_pos d1, oI_n]
            rw [vEe]
            simp [vM, gi_ui, h9]
          · simp [vM, gi_ui, hj]
        · have d0 : dnB D g hn i = false := by simp [dnB, hgi, dn]
          rw [if_neg (by rw [nI_leI (by omega) (by omega)]; omega)]
          refine ⟨_, rfl, hW.step h7 hTi (fun j => rfl) ?_ ?_ ?_ (fun f' hf' => ?_) ?_ (fun j hj => ?_), ((Md.rf _ S).ui rfl rfl).ui rfl rfl⟩
          · rw [t1, if_pos rfl]
            simp [vM, gi_ui]
          · rw [t1, if_pos rfl]
            simp [vM, gi_ui, hgi]
          · rw [d0, if_neg (by decide)]
            simp [vM, gi_ui]
          · have vF0 : vF D g hn f' i = 0 := by simp [vF, d0]
            rw [vF0, show Int32.ofInt 0 = 0 from rfl]
            simp [vM, gi_ui]
          · have vE0 : vE D g hn i = 0 := by simp [vE, d0]
            rw [vE0, show Int32.ofInt 0 = 0 from rfl]
            simp [vM, gi_ui]
          · simp [vM, gi_ui, hj]
      obtain ⟨S', s1, s2, s3⟩ := st
      obtain ⟨Z, z1, z2⟩ := ih n (k + 1) b' (fun j => T j || decide (j = i)) S' hd (by omega) (by omega) h4.2 (hM.trans (s3.mono (by decide))) ⟨by rw [s3.gi 30 0 36 rfl]; exact hR.1, fun j hj => by rw [s3.gi 31 20 j rfl]; exact hR.2 j hj⟩ s2 (fun j hj => by
        have : ¬ j = i := fun e => h4.1 (by rw [← e]; exact hj)
        simp [hT j (List.mem_cons_of_mem _ hj), this]) (by omega) x1 hH'
      refine ⟨Z, by rw [s1, z1], z2.cg (fun j _ => ?_)⟩
      rw [Bool.or_assoc]
      congr 1
      by_cases e1 : j = i <;> by_cases e2 : j ∈ r <;> simp [e1, e2]
