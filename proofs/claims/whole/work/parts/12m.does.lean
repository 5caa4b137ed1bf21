/-! the loops -/
abbrev K5 : Type := Int32 → Int32 → Int32 → Int32 → Int32 → HS → Option (Int32 × HS)
theorem do194 (N : Nat) (K : K5) {S : HS} {D : Pb} (hx : Mx S D) {f i : Nat} (hf : f < 4) (hi : i < D 0 0 1) (v3 v6 : Int32) {w2 fr2 : Nat} (hw : w2 ≤ 51) : ∀ (m n v : Nat), m = w2 + 1 - v → m < n → v ≤ 52 → f_X9_does_194 csF N K n (nI f) v3 (nI w2) (nI fr2) v6 (nI i) (nI v) S = if okR (okD D f i) m v = true then K (nI f) v3 (nI w2) (nI fr2) (v6 + 1) S else some (0, S) := by
  have h7 := (hx.oo hi).1
  intro m
  induction m with
  | zero =>
    intro n v hm hn hv
    obtain ⟨n, rfl⟩ : ∃ k, n = k + 1 := ⟨n - 1, by omega⟩
    rw [f_X9_does_194, if_pos (by rw [nI_ltI (by omega) (by omega)]; omega), lt_s_]
    unfold okR
    rw [if_pos rfl]
  | succ m ih =>
    intro n v hm hn hv
    obtain ⟨n, rfl⟩ : ∃ k, n = k + 1 := ⟨n - 1, by omega⟩
    rw [f_X9_does_194, if_neg (by rw [nI_ltI (by omega) (by omega)]; omega), mF (by decide) (by decide), ck_t, mF (by decide) (by decide), ck_t, inb_k h7 (by decide), ck_t, cl_k (by omega), (hx.k hf hi (show v < 52 by omega) N).2, ob_s]
    show _ = if (okD D f i v && okR (okD D f i) m (v + 1)) = true then _ else _
    by_cases q : D 9 (7 * f + i) v = 1
    · rw [if_pos q, if_neg (by decide), lt_s_, nI_1, ih n (v + 1) (by omega) (by omega) (by omega)]
      have e : okD D f i v = true := decide_eq_true q
      rw [e, Bool.true_and]
    · rw [if_neg q, if_pos rfl]
      have e : okD D f i v = false := decide_eq_false q
      rw [e, Bool.false_and, if_neg (by decide)]
theorem do117 (N : Nat) (hN : 60 ≤ N) (K : K5) {S : HS} {D : Pb} (hx : Mx S D) {f i : Nat} (hf : f < 4) (hi : i < D 0 0 1) (v3 v6 : Int32) {bg : Nat} (hbg : bg ≤ 51) : ∀ (m n w fr rest : Nat), m = 51 - w → m < n → bg ≤ w → w ≤ 51 → fr ≤ 99 → rest ≤ 6000 → f_X9_does_117 csF N K n (nI f) v3 (nI w) (nI fr) v6 (nI i) (nI bg) (nI rest) S = (match fin1 (D 2 f) m w fr rest with
    | none => some (0, S)
    | some b => if b.1 ≤ D 5 i 0 ∧ okR (okD D f i) (b.1 + 1 - bg) bg = true then K (nI f) v3 (nI b.1) (nI b.2) (v6 + 1) (ui S 31 21 i (nI b.1)) else some (0, ui S 31 21 i (nI b.1))) := by
  have h7 := (hx.oo hi).1
  have h5 := (hx.o hi).1
  have hit : ∀ (w fr rest n : Nat), bg ≤ w → w ≤ 51 → fr ≤ 99 → rest ≤ fr → f_X9_does_117 csF N K (n + 1) (nI f) v3 (nI w) (nI fr) v6 (nI i) (nI bg) (nI rest) S = if w ≤ D 5 i 0 ∧ okR (okD D f i) (w + 1 - bg) bg = true then K (nI f) v3 (nI w) (nI (fr - rest)) (v6 + 1) (ui S 31 21 i (nI w)) else some (0, ui S 31 21 i (nI w)) := by
    intro w fr rest n a1 a2 a3 a4
    have mu : Md [(31, some 21, none)] S (ui S 31 21 i (nI w)) := (Md.rf _ S).ui rfl rfl
    have hx' := hx.sub mu (by decide)
    rw [f_X9_does_117, if_pos (by rw [nI_leI (by omega) (by omega)]; exact a4), lt_s_, mF (by decide) (by decide), ck_t, mF (by decide) (by decide), ck_t, inb_k h7 (by decide), ck_t, lt_s_, mF (by decide) (by decide), ck_t, ck_t, cl_k (by omega), gi_ui_k _ _ _ _ _ _ (by decide), h5.2.1, nI_sb a4 (by omega)]
    by_cases q : w ≤ D 5 i 0
    · rw [if_pos (by rw [nI_leI (by omega) (by omega)]; exact q), do194 N K hx' hf hi v3 v6 a2 (w + 1 - bg) N bg rfl (by omega) (by omega)]
      by_cases q2 : okR (okD D f i) (w + 1 - bg) bg = true
      · rw [if_pos q2, if_pos ⟨q, q2⟩]
      · rw [if_neg q2, if_neg (fun x => q2 x.2)]
    · rw [if_neg (by rw [nI_leI (by omega) (by omega)]; exact q), if_neg (fun x => q x.1)]
  intro m
  induction m with
  | zero =>
    intro n w fr rest hm hn hb hw hfr hrest
    obtain ⟨n, rfl⟩ : ∃ k, n = k + 1 := ⟨n - 1, by omega⟩
    unfold fin1
    by_cases q : rest ≤ fr
    · rw [if_pos q, hit w fr rest n hb hw hfr q]
    · rw [if_neg q, f_X9_does_117, if_neg (by rw [nI_leI (by omega) (by omega)]; exact q), if_pos (by rw [show (51 : Int32) = nI 51 from rfl, nI_eq (by omega) (by omega)]; omega)]
  | succ m ih =>
    intro n w fr rest hm hn hb hw hfr hrest
    obtain ⟨n, rfl⟩ : ∃ k, n = k + 1 := ⟨n - 1, by omega⟩
    show _ = (match (if rest ≤ fr then some (w, fr - rest) else fin1 (D 2 f) m (w + 1) (D 2 f (w + 1)) (rest - fr)) with
      | none => some (0, S)
      | some b => if b.1 ≤ D 5 i 0 ∧ okR (okD D f i) (b.1 + 1 - bg) bg = true then K (nI f) v3 (nI b.1) (nI b.2) (v6 + 1) (ui S 31 21 i (nI b.1)) else some (0, ui S 31 21 i (nI b.1)))
    by_cases q : rest ≤ fr
    · rw [if_pos q, hit w fr rest n hb hw hfr q]
    · have hh := hx.h hf (show w + 1 < 52 by omega)
      rw [if_neg q, f_X9_does_117, if_neg (by rw [nI_leI (by omega) (by omega)]; exact q), if_neg (by rw [show (51 : Int32) = nI 51 from rfl, nI_eq (by omega) (by omega)]; omega), lt_s_, lt_s_, nI_1, mF (by decide) (by decide), ck_t, mF (by decide) (by decide), ck_t, ix52, inb_k (show 52 * f + (w + 1) < 208 by omega) (by decide), ck_t, lt_s_, cl_k (by omega), hh.2.1, nI_sb (by omega) (by omega)]
      exact ih n (w + 1) (D 2 f (w + 1)) (rest - fr) (by omega) (by omega) (by omega) (by omega) hh.2.2 (by omega)
theorem do72 (N : Nat) (K : K5) {S : HS} {D : Pb} (hx : Mx S D) {f i : Nat} (hf : f < 4) (v3 v6 : Int32) : ∀ (m n w fr : Nat), m = 51 - w → m < n → w ≤ 51 → fr ≤ 99 → f_X9_does_72 csF N K n (nI f) v3 (nI w) (nI fr) v6 (nI i) S = f_X9_does_104 csF N K (nI f) v3 (nI (skp (D 2 f) m w fr).1) (nI (skp (D 2 f) m w fr).2) v6 (nI i) S := by
  intro m
  induction m with
  | zero =>
    intro n w fr hm hn hw hfr
    obtain ⟨n, rfl⟩ : ∃ k, n = k + 1 := ⟨n - 1, by omega⟩
    rw [f_X9_does_72]
    by_cases q : fr = 0
    · subst q
      rw [if_pos (show nI 0 = 0 from rfl), if_pos (by rw [show (51 : Int32) = nI 51 from rfl, nI_leI (by omega) (by omega)]; omega)]
      rfl
    · rw [if_neg (by rw [show (0 : Int32) = nI 0 from rfl, nI_eq (by omega) (by omega)]; exact q)]
      rfl
  | succ m ih =>
    intro n w fr hm hn hw hfr
    obtain ⟨n, rfl⟩ : ∃ k, n = k + 1 := ⟨n - 1, by omega⟩
    rw [f_X9_does_72]
    show _ = f_X9_does_104 csF N K (nI f) v3 (nI (if fr = 0 then skp (D 2 f) m (w + 1) (D 2 f (w + 1)) else (w, fr)).1) (nI (if fr = 0 then skp (D 2 f) m (w + 1) (D 2 f (w + 1)) else (w, fr)).2) v6 (nI i) S
    by_cases q : fr = 0
    · have hh := hx.h hf (show w + 1 < 52 by omega)
      rw [if_pos q]
      subst q
      rw [if_pos (show nI 0 = 0 from rfl), if_neg (by rw [show (51 : Int32) = nI 51 from rfl, nI_leI (by omega) (by omega)]; omega), lt_s_, nI_1, mF (by decide) (by decide), ck_t, mF (by decide) (by decide), ck_t, ix52, inb_k (show 52 * f + (w + 1) < 208 by omega) (by decide), ck_t, lt_s_, cl_k (by omega), hh.2.1]
      exact ih n (w + 1) _ (by omega) (by omega) (by omega) hh.2.2
    · rw [if_neg q, if_neg (by rw [show (0 : Int32) = nI 0 from rfl, nI_eq (by omega) (by omega)]; exact q)]
/-- one order -/
theorem do_one (N : Nat) (hN : 60 ≤ N) (K : K5) {S : HS} {D : Pb} (hx : Mx S D) {f i : Nat} (hf : f < 4) (hi : i < D 0 0 1) (v3 v6 : Int32) {b : Nat × Nat} (hb : b.1 ≤ 51) (hb2 : b.2 ≤ 99) : (∃ b', mlD D f i b = some b' ∧ f_X9_does_72 csF N K N (nI f) v3 (nI b.1) (nI b.2) v6 (nI i) S = K (nI f) v3 (nI b'.1) (nI b'.2) (v6 + 1) (ui S 31 21 i (nI b'.1))) ∨ (mlD D f i b = none ∧ ∃ Z, f_X9_does_72 csF N K N (nI f) v3 (nI b.1) (nI b.2) v6 (nI i) S = some (0, Z) ∧ ∀ j, j ≠ i → gi Z 31 21 j = gi S 31 21 j) := by
  have hll := hx.l hf hi N
  have hh : ∀ u, u ≤ 51 → D 2 f u ≤ 99 := fun u hu => (hx.h hf (by omega)).2.2
  have s := skp_rg (hr := D 2 f) (51 - b.1) b.1 b.2 (fun u hu => hh u (by omega)) hb2
  rw [do72 N K hx hf v3 v6 (51 - b.1) N b.1 b.2 rfl (by omega) hb hb2, f_X9_does_104, mF (by decide) (by decide), ck_t, hll.2.1, ob_s, do117 N hN K hx hf hi v3 v6 (by omega) (51 - (skp (D 2 f) (51 - b.1) b.1 b.2).1) N _ _ _ rfl (by omega) (Nat.le_refl _) (by omega) s.2.2 hll.2.2.1]
  unfold mlD mlay
  cases hq : fin1 (D 2 f) (51 - (skp (D 2 f) (51 - b.1) b.1 b.2).1) (skp (D 2 f) (51 - b.1) b.1 b.2).1 (skp (D 2 f) (51 - b.1) b.1 b.2).2 (D 3 f i) with
  | none => exact Or.inr ⟨rfl, S, rfl, fun _ _ => rfl⟩
  | some c =>
    dsimp only
    by_cases q : c.1 ≤ D 5 i 0 ∧ okR (okD D f i) (c.1 + 1 - (skp (D 2 f) (51 - b.1) b.1 b.2).1) (skp (D 2 f) (51 - b.1) b.1 b.2).1 = true
    · rw [if_pos q, if_pos q]
      exact Or.inl ⟨c, rfl, rfl⟩
    · rw [if_neg q, if_neg q]
      exact Or.inr ⟨rfl, _, rfl, fun j hj => gi_ui_j _ _ _ _ _ _ hj⟩
/-- the weeks in which the orders of a row are over -/
def OvM (Z : HS) (D : Pb) (f : Nat) : List Nat → Nat × Nat → Prop
  | [], _ => True
  | i :: l, b => ∃ b', mlD D f i b = some b' ∧ gi Z 31 21 i = nI b'.1 ∧ OvM Z D f l b'
theorem do32 (N : Nat) (hN : 60 ≤ N) {D : Pb} {f : Nat} (hf : f < 4) {L : List Nat} (hL : L.length ≤ 7) (hm : ∀ i, i ∈ L → i < D 0 0 1) : ∀ (r : List Nat) (n k sum : Nat) (b : Nat × Nat) (S : HS), L.drop k = r → k + r.length = L.length → r.length < n → r.Nodup → Mx S D → RowM S L → sum ≤ 4000 * k → b.1 ≤ 51 → b.2 ≤ 99 → ∃ Z, f_X9_does_32 csF N n (nI f) (nI sum) (nI b.1) (nI b.2) (nI k) S = some (if mdo D f r sum b = true then 1 else 0, Z) ∧ (∀ j, ¬ j ∈ r → gi Z 31 21 j = gi S 31 21 j) ∧ (mdo D f r sum b = true → OvM Z D f r b) := by
  intro r
  induction r with
  | nil =>
    intro n k sum b S h1 h2 h3 h4 hx hR hs hb hb2
    obtain ⟨n, rfl⟩ : ∃ k, n = k + 1 := ⟨n - 1, by simp at h3; omega⟩
    simp at h2
    refine ⟨S, ?_, fun _ _ => rfl, fun _ => trivial⟩
    rw [f_X9_does_32, mF (by decide) (by decide), ck_t, hR.1, if_pos (by rw [nI_leI (by omega) (by omega)]; omega)]
    rfl
  | cons i r ih =>
    intro n k sum b S h1 h2 h3 h4 hx hR hs hb hb2
    obtain ⟨n, rfl⟩ : ∃ k, n = k + 1 := ⟨n - 1, by simp at h3; omega⟩
    simp at h2 h3
    have hk : k < L.length := by omega
    have ei : L.getD k 0 = i := by
      have h1' : (L.drop k)[0]? = some i := by rw [h1]; rfl
      rw [List.getElem?_drop] at h1'
      simp [List.getD] at h1' ⊢
      rw [h1']; rfl
    have hd : L.drop (k + 1) = r := by rw [← List.drop_drop, h1]; rfl
    have hi : i < D 0 0 1 := hm i (by rw [← ei]; exact getD_mem hk)
    have h7 := (hx.oo hi).1
    have o7 := (hx.o hi).2.2.1
    have d4 := (hx.f hf).2.2
    rw [List.nodup_cons] at h4
    rw [f_X9_does_32, mF (by decide) (by decide), ck_t, hR.1, if_neg (by rw [nI_leI (by omega) (by omega)]; omega), mF (by decide) (by decide), ck_t, inb_k (show k < 7 by omega) (by decide), ck_t, lt_s_, cl_k (show k < 2147483648 by omega), hR.2 k hk, ei, mF (by decide) (by decide), ck_t, inb_k h7 (by decide), ck_t, lt_s_, cl_k (show i < 2147483648 by omega), o7.2.1, nI_add, mF (by decide) (by decide), ck_t, inb_k hf (by decide), ck_t, cl_k (show f < 2147483648 by omega), d4.1]
    unfold mdo
    by_cases q : sum + D 7 i 0 ≤ D 4 f 0
    · rw [if_pos (by rw [nI_leI (by omega) (by omega)]; exact q)]
      simp only [if_pos q]
      rcases do_one N hN (f_X9_does_32 csF N n) hx hf hi (nI (sum + D 7 i 0)) (nI k) hb hb2 with ⟨b', e1, e2⟩ | ⟨e1, Z, e2, e3⟩
      · rw [e2, nI_1]
        have rg := mlD_rg hx.ok hf hb hb2 e1
        have mu : Md [(31, some 21, none)] S (ui S 31 21 i (nI b'.1)) := (Md.rf _ S).ui rfl rfl
        obtain ⟨Z, z1, z2, z3⟩ := ih n (k + 1) (sum + D 7 i 0) b' (ui S 31 21 i (nI b'.1)) hd (by omega) (by omega) h4.2 (hx.sub mu (by decide)) ⟨by rw [mu.gi _ _ _ rfl]; exact hR.1, fun j hj => by rw [mu.gi _ _ _ rfl]; exact hR.2 j hj⟩ (by omega) rg.2.1 rg.2.2
        refine ⟨Z, ?_, fun j hj => ?_, fun hdo => ⟨b', e1, ?_, z3 ?_⟩⟩
        · rw [z1, e1]
        · rw [z2 j (fun x => hj (List.mem_cons_of_mem _ x)), gi_ui_j _ _ _ _ _ _ (fun x => hj (by rw [x]; exact List.mem_cons_self))]
        · rw [z2 i h4.1, gi_ui_s]
        · rw [e1] at hdo
          exact hdo
      · refine ⟨Z, ?_, fun j hj => e3 j (fun x => hj (by rw [x]; exact List.mem_cons_self)), fun hdo => ?_⟩
        · rw [e2, e1]
          rfl
        · rw [e1] at hdo
          cases hdo
    · rw [if_neg (by rw [nI_leI (by omega) (by omega)]; exact q)]
      simp only [if_neg q]
      exact ⟨S, rfl, fun _ _ => rfl, fun x => by cases x⟩
theorem X9_does_eq (N : Nat) (hN : 60 ≤ N) {S : HS} {D : Pb} (hx : Mx S D) {f s : Nat} (hf : f < 4) (hs : s < 128) : ∃ Z l, f_X9_does csF N (nI f) (nI s) S = some (if mdo D f l 0 (st0 D f) = true then 1 else 0, Z) ∧ rowOk D l ∧ (∀ j, j ∈ l ↔ j < D 0 0 1 ∧ s.testBit j = true) ∧ (mdo D f l 0 (st0 D f) = true → OvM Z D f l (st0 D f)) ∧ Md ml_X9_does S Z := by
  have ha := hx.a
  obtain ⟨Z1, l, z1, z2, z3, z4, z5, z6⟩ := X9_sorts_eq N (by omega) hx.sx hs
  have hx1 := hx.sub z6 (by decide)
  have hw : D 0 0 0 < 52 := by omega
  have hh := hx1.h hf hw
  obtain ⟨Z, y1, y2, y3⟩ := do32 N hN hf (L := l) (by omega) (fun i hi => ((z5 i).mp hi).1) l N 0 0 (st0 D f) Z1 rfl (by simp) (by omega) (row_nd z3) hx1 z2 (by omega) ha.2.2.2.2.1 hh.2.2
  have e : f_X9_does csF N (nI f) (nI s) S = some (if mdo D f l 0 (st0 D f) = true then 1 else 0, Z) := by
    rw [f_X9_does, mF (by decide) (by decide), ck_t, z1, ob_s, lt_s_, hx1.a.2.1, mF (by decide) (by decide), ck_t, ix52, inb_k (show 52 * f + D 0 0 0 < 208 by omega) (by decide), ck_t, lt_s_, cl_k (by omega), hh.2.1]
    exact y1
  exact ⟨Z, l, e, z3, z5, y3, md_X9_does _ _ _ _ _ _ _ e⟩
