/-! ===== the first state ===== -/
def offF (c k : Nat) : Nat := match c with
  | 4 => 45 + 2 * k
  | 5 => 46 + 2 * k
  | 6 => 53 + k
  | 7 => 59 + k
  | 8 => 4
  | 9 => 5
  | 10 => 6
  | 11 => 7
  | 12 => 8
  | 13 => 9 + k
  | 14 => 13
  | 15 => 14
  | 16 => 15 + k
  | 17 => 18 + k
  | 18 => 20
  | 19 => 21 + k
  | 20 => 25 + 10 * k
  | 21 => 26 + 10 * k
  | 22 => 27 + 10 * k
  | 23 => 28 + 10 * (k / 6) + k % 6
  | 24 => 34 + 10 * k
  | 30 => 66
  | 31 => if k ≤ 17 then 67 + k else if k ≤ 21 then 68 + k else 69 + k
  | 32 => if k = 0 then 85 else 90
  | c => c
def adF (h : Nat) (tk k1 k2 : Nat → Nat) (fm : Nat) : Nat → Nat → Nat := fun c k => match c with
  | 40 => tk k
  | 41 => k1 k
  | 42 => k2 k
  | 43 => fm
  | c => h + offF c k
def S0F : HS := (fun c k => match c with
  | 0 => fun j => if j = 6 then 1 else 0
  | 4 => fun j => if j = 0 then nI k else 0
  | 5 => fl 40 52
  | 6 => fun j => if j = 0 then 5 else if j = 1 then 2 else 0
  | 7 => fun j => if j = 0 then nI k else if j = 10 then -1 else 0
  | 8 => fun j => if j = 3 then -1 else 0
  | 21 => fun _ => -1
  | 23 => fun _ => -1
  | 30 => fun j => if j = 34 then -1 else 0
  | 31 => (match k with
    | 0 => fl 40 208
    | 3 => fl 5 6
    | 4 => fl 2 6
    | 16 => fl (-1) 6
    | 17 => fl (-1) 24
    | _ => fun _ => 0)
  | _ => fun _ => 0, fun _ _ _ => 0)
theorem vpc_q {D : va_G} {cl : List vw_C} {a n : Nat} {cA : ClassId} {f g : Nat → Option Nat} {H : Heap} (e : ∀ j, j < n → f j = g j) (h : va_at D cl (a, .inl (cA, n, .inr (.inr (.inr (.inr f))))) H) : va_at D cl (a, .inl (cA, n, .inr (.inr (.inr (.inr g))))) H := by
  have x : vp_cell cA (n, .inr (.inr (.inr (.inr f)))) = vp_cell cA (n, .inr (.inr (.inr (.inr g)))) := by
    rw [vp_cell_q, vp_cell_q]
    unfold arrV
    congr 2
    funext j
    show va_rf (f j) = va_rf (g j)
    rw [e j j.isLt]
  show H[a]? = some (vp_cell cA (n, .inr (.inr (.inr (.inr g)))))
  rw [← x]
  exact h
def eAll (cy : Nat → ClassId) (h : Nat) : List va_E := eGV cy h ++ eM cy (h + 66)
theorem adF_lo (h : Nat) (tk k1 k2 : Nat → Nat) (fm c k : Nat) (hc : c < 33) : adF h tk k1 k2 fm c k = h + offF c k := by
  unfold adF
  split <;> first | omega | rfl
set_option maxRecDepth 100000 in
theorem at_0 {D : va_G} {cy : Nat → ClassId} {h : Nat} {tk k1 k2 : Nat → Nat} {fm : Nat} {H : Heap} (hP : va_P D vwCl (wB h (eAll cy h)) H) : ∀ k, k < 1 → va_at D vwCl (adF h tk k1 k2 fm 0 k, sh cy (adF h tk k1 k2 fm) 0 k (S0F.1 0 k) (S0F.2 0 k)) H := by
  intro k hk
  match k, hk with
  | 0, _ => exact wB_get (k := 0) hP rfl
  | k + 1, hk => omega
set_option maxRecDepth 100000 in
theorem at_1 {D : va_G} {cy : Nat → ClassId} {h : Nat} {tk k1 k2 : Nat → Nat} {fm : Nat} {H : Heap} (hP : va_P D vwCl (wB h (eAll cy h)) H) : ∀ k, k < 1 → va_at D vwCl (adF h tk k1 k2 fm 1 k, sh cy (adF h tk k1 k2 fm) 1 k (S0F.1 1 k) (S0F.2 1 k)) H := by
  intro k hk
  match k, hk with
  | 0, _ => exact vpc_q (f := fun j => if j < 4 then some (h + (45 + 2 * j)) else none) (fun j hj => if_pos hj) (wB_get (k := 1) hP rfl)
  | k + 1, hk => omega
set_option maxRecDepth 100000 in
theorem at_2 {D : va_G} {cy : Nat → ClassId} {h : Nat} {tk k1 k2 : Nat → Nat} {fm : Nat} {H : Heap} (hP : va_P D vwCl (wB h (eAll cy h)) H) : ∀ k, k < 1 → va_at D vwCl (adF h tk k1 k2 fm 2 k, sh cy (adF h tk k1 k2 fm) 2 k (S0F.1 2 k) (S0F.2 2 k)) H := by
  intro k hk
  match k, hk with
  | 0, _ => exact vpc_q (f := fun j => if j < 6 then some (h + (53 + j)) else none) (fun j hj => if_pos hj) (wB_get (k := 2) hP rfl)
  | k + 1, hk => omega
set_option maxRecDepth 100000 in
theorem at_3 {D : va_G} {cy : Nat → ClassId} {h : Nat} {tk k1 k2 : Nat → Nat} {fm : Nat} {H : Heap} (hP : va_P D vwCl (wB h (eAll cy h)) H) : ∀ k, k < 1 → va_at D vwCl (adF h tk k1 k2 fm 3 k, sh cy (adF h tk k1 k2 fm) 3 k (S0F.1 3 k) (S0F.2 3 k)) H := by
  intro k hk
  match k, hk with
  | 0, _ => exact vpc_q (f := fun j => if j < 7 then some (h + (59 + j)) else none) (fun j hj => if_pos hj) (wB_get (k := 3) hP rfl)
  | k + 1, hk => omega
set_option maxRecDepth 100000 in
theorem at_4 {D : va_G} {cy : Nat → ClassId} {h : Nat} {tk k1 k2 : Nat → Nat} {fm : Nat} {H : Heap} (hP : va_P D vwCl (wB h (eAll cy h)) H) : ∀ k, k < 4 → va_at D vwCl (adF h tk k1 k2 fm 4 k, sh cy (adF h tk k1 k2 fm) 4 k (S0F.1 4 k) (S0F.2 4 k)) H := by
  intro k hk
  match k, hk with
  | 0, _ => exact wB_get (k := 45) hP rfl
  | 1, _ => exact wB_get (k := 47) hP rfl
  | 2, _ => exact wB_get (k := 49) hP rfl
  | 3, _ => exact wB_get (k := 51) hP rfl
  | k + 4, hk => omega
set_option maxRecDepth 100000 in
theorem at_5 {D : va_G} {cy : Nat → ClassId} {h : Nat} {tk k1 k2 : Nat → Nat} {fm : Nat} {H : Heap} (hP : va_P D vwCl (wB h (eAll cy h)) H) : ∀ k, k < 4 → va_at D vwCl (adF h tk k1 k2 fm 5 k, sh cy (adF h tk k1 k2 fm) 5 k (S0F.1 5 k) (S0F.2 5 k)) H := by
  intro k hk
  match k, hk with
  | 0, _ => exact wB_get (k := 46) hP rfl
  | 1, _ => exact wB_get (k := 48) hP rfl
  | 2, _ => exact wB_get (k := 50) hP rfl
  | 3, _ => exact wB_get (k := 52) hP rfl
  | k + 4, hk => omega
set_option maxRecDepth 100000 in
theorem at_6 {D : va_G} {cy : Nat → ClassId} {h : Nat} {tk k1 k2 : Nat → Nat} {fm : Nat} {H : Heap} (hP : va_P D vwCl (wB h (eAll cy h)) H) : ∀ k, k < 6 → va_at D vwCl (adF h tk k1 k2 fm 6 k, sh cy (adF h tk k1 k2 fm) 6 k (S0F.1 6 k) (S0F.2 6 k)) H := by
  intro k hk
  match k, hk with
  | 0, _ => exact wB_get (k := 53) hP rfl
  | 1, _ => exact wB_get (k := 54) hP rfl
  | 2, _ => exact wB_get (k := 55) hP rfl
  | 3, _ => exact wB_get (k := 56) hP rfl
  | 4, _ => exact wB_get (k := 57) hP rfl
  | 5, _ => exact wB_get (k := 58) hP rfl
  | k + 6, hk => omega
set_option maxRecDepth 100000 in
theorem at_7 {D : va_G} {cy : Nat → ClassId} {h : Nat} {tk k1 k2 : Nat → Nat} {fm : Nat} {H : Heap} (hP : va_P D vwCl (wB h (eAll cy h)) H) : ∀ k, k < 7 → va_at D vwCl (adF h tk k1 k2 fm 7 k, sh cy (adF h tk k1 k2 fm) 7 k (S0F.1 7 k) (S0F.2 7 k)) H := by
  intro k hk
  match k, hk with
  | 0, _ => exact wB_get (k := 59) hP rfl
  | 1, _ => exact wB_get (k := 60) hP rfl
  | 2, _ => exact wB_get (k := 61) hP rfl
  | 3, _ => exact wB_get (k := 62) hP rfl
  | 4, _ => exact wB_get (k := 63) hP rfl
  | 5, _ => exact wB_get (k := 64) hP rfl
  | 6, _ => exact wB_get (k := 65) hP rfl
  | k + 7, hk => omega
set_option maxRecDepth 100000 in
theorem at_8 {D : va_G} {cy : Nat → ClassId} {h : Nat} {tk k1 k2 : Nat → Nat} {fm : Nat} {H : Heap} (hP : va_P D vwCl (wB h (eAll cy h)) H) : ∀ k, k < 1 → va_at D vwCl (adF h tk k1 k2 fm 8 k, sh cy (adF h tk k1 k2 fm) 8 k (S0F.1 8 k) (S0F.2 8 k)) H := by
  intro k hk
  match k, hk with
  | 0, _ => exact wB_get (k := 4) hP rfl
  | k + 1, hk => omega
set_option maxRecDepth 100000 in
theorem at_9 {D : va_G} {cy : Nat → ClassId} {h : Nat} {tk k1 k2 : Nat → Nat} {fm : Nat} {H : Heap} (hP : va_P D vwCl (wB h (eAll cy h)) H) : ∀ k, k < 1 → va_at D vwCl (adF h tk k1 k2 fm 9 k, sh cy (adF h tk k1 k2 fm) 9 k (S0F.1 9 k) (S0F.2 9 k)) H := by
  intro k hk
  match k, hk with
  | 0, _ => exact wB_get (k := 5) hP rfl
  | k + 1, hk => omega
set_option maxRecDepth 100000 in
theorem at_10 {D : va_G} {cy : Nat → ClassId} {h : Nat} {tk k1 k2 : Nat → Nat} {fm : Nat} {H : Heap} (hP : va_P D vwCl (wB h (eAll cy h)) H) : ∀ k, k < 1 → va_at D vwCl (adF h tk k1 k2 fm 10 k, sh cy (adF h tk k1 k2 fm) 10 k (S0F.1 10 k) (S0F.2 10 k)) H := by
  intro k hk
  match k, hk with
  | 0, _ => exact wB_get (k := 6) hP rfl
  | k + 1, hk => omega
set_option maxRecDepth 100000 in
theorem at_11 {D : va_G} {cy : Nat → ClassId} {h : Nat} {tk k1 k2 : Nat → Nat} {fm : Nat} {H : Heap} (hP : va_P D vwCl (wB h (eAll cy h)) H) : ∀ k, k < 1 → va_at D vwCl (adF h tk k1 k2 fm 11 k, sh cy (adF h tk k1 k2 fm) 11 k (S0F.1 11 k) (S0F.2 11 k)) H := by
  intro k hk
  match k, hk with
  | 0, _ => exact wB_get (k := 7) hP rfl
  | k + 1, hk => omega
set_option maxRecDepth 100000 in
theorem at_12 {D : va_G} {cy : Nat → ClassId} {h : Nat} {tk k1 k2 : Nat → Nat} {fm : Nat} {H : Heap} (hP : va_P D vwCl (wB h (eAll cy h)) H) : ∀ k, k < 1 → va_at D vwCl (adF h tk k1 k2 fm 12 k, sh cy (adF h tk k1 k2 fm) 12 k (S0F.1 12 k) (S0F.2 12 k)) H := by
  intro k hk
  match k, hk with
  | 0, _ => exact wB_get (k := 8) hP rfl
  | k + 1, hk => omega
set_option maxRecDepth 100000 in
theorem at_13 {D : va_G} {cy : Nat → ClassId} {h : Nat} {tk k1 k2 : Nat → Nat} {fm : Nat} {H : Heap} (hP : va_P D vwCl (wB h (eAll cy h)) H) : ∀ k, k < 4 → va_at D vwCl (adF h tk k1 k2 fm 13 k, sh cy (adF h tk k1 k2 fm) 13 k (S0F.1 13 k) (S0F.2 13 k)) H := by
  intro k hk
  match k, hk with
  | 0, _ => exact wB_get (k := 9) hP rfl
  | 1, _ => exact wB_get (k := 10) hP rfl
  | 2, _ => exact wB_get (k := 11) hP rfl
  | 3, _ => exact wB_get (k := 12) hP rfl
  | k + 4, hk => omega
set_option maxRecDepth 100000 in
theorem at_14 {D : va_G} {cy : Nat → ClassId} {h : Nat} {tk k1 k2 : Nat → Nat} {fm : Nat} {H : Heap} (hP : va_P D vwCl (wB h (eAll cy h)) H) : ∀ k, k < 1 → va_at D vwCl (adF h tk k1 k2 fm 14 k, sh cy (adF h tk k1 k2 fm) 14 k (S0F.1 14 k) (S0F.2 14 k)) H := by
  intro k hk
  match k, hk with
  | 0, _ => exact wB_get (k := 13) hP rfl
  | k + 1, hk => omega
set_option maxRecDepth 100000 in
theorem at_15 {D : va_G} {cy : Nat → ClassId} {h : Nat} {tk k1 k2 : Nat → Nat} {fm : Nat} {H : Heap} (hP : va_P D vwCl (wB h (eAll cy h)) H) : ∀ k, k < 1 → va_at D vwCl (adF h tk k1 k2 fm 15 k, sh cy (adF h tk k1 k2 fm) 15 k (S0F.1 15 k) (S0F.2 15 k)) H := by
  intro k hk
  match k, hk with
  | 0, _ => exact wB_get (k := 14) hP rfl
  | k + 1, hk => omega
set_option maxRecDepth 100000 in
theorem at_16 {D : va_G} {cy : Nat → ClassId} {h : Nat} {tk k1 k2 : Nat → Nat} {fm : Nat} {H : Heap} (hP : va_P D vwCl (wB h (eAll cy h)) H) : ∀ k, k < 3 → va_at D vwCl (adF h tk k1 k2 fm 16 k, sh cy (adF h tk k1 k2 fm) 16 k (S0F.1 16 k) (S0F.2 16 k)) H := by
  intro k hk
  match k, hk with
  | 0, _ => exact wB_get (k := 15) hP rfl
  | 1, _ => exact wB_get (k := 16) hP rfl
  | 2, _ => exact wB_get (k := 17) hP rfl
  | k + 3, hk => omega
set_option maxRecDepth 100000 in
theorem at_17 {D : va_G} {cy : Nat → ClassId} {h : Nat} {tk k1 k2 : Nat → Nat} {fm : Nat} {H : Heap} (hP : va_P D vwCl (wB h (eAll cy h)) H) : ∀ k, k < 2 → va_at D vwCl (adF h tk k1 k2 fm 17 k, sh cy (adF h tk k1 k2 fm) 17 k (S0F.1 17 k) (S0F.2 17 k)) H := by
  intro k hk
  match k, hk with
  | 0, _ => exact wB_get (k := 18) hP rfl
  | 1, _ => exact wB_get (k := 19) hP rfl
  | k + 2, hk => omega
set_option maxRecDepth 100000 in
theorem at_18 {D : va_G} {cy : Nat → ClassId} {h : Nat} {tk k1 k2 : Nat → Nat} {fm : Nat} {H : Heap} (hP : va_P D vwCl (wB h (eAll cy h)) H) : ∀ k, k < 1 → va_at D vwCl (adF h tk k1 k2 fm 18 k, sh cy (adF h tk k1 k2 fm) 18 k (S0F.1 18 k) (S0F.2 18 k)) H := by
  intro k hk
  match k, hk with
  | 0, _ => exact vpc_q (f := fun j => some (h + 8 + 12 + 1 + j)) (fun j _ => congrArg some (show h + 8 + 12 + 1 + j = h + (21 + j) by omega)) (wB_get (k := 20) hP rfl)
  | k + 1, hk => omega
set_option maxRecDepth 100000 in
theorem at_19 {D : va_G} {cy : Nat → ClassId} {h : Nat} {tk k1 k2 : Nat → Nat} {fm : Nat} {H : Heap} (hP : va_P D vwCl (wB h (eAll cy h)) H) : ∀ k, k < 4 → va_at D vwCl (adF h tk k1 k2 fm 19 k, sh cy (adF h tk k1 k2 fm) 19 k (S0F.1 19 k) (S0F.2 19 k)) H := by
  intro k hk
  match k, hk with
  | 0, _ => exact wB_get (k := 21) hP rfl
  | 1, _ => exact wB_get (k := 22) hP rfl
  | 2, _ => exact wB_get (k := 23) hP rfl
  | 3, _ => exact wB_get (k := 24) hP rfl
  | k + 4, hk => omega
set_option maxRecDepth 100000 in
theorem at_20 {D : va_G} {cy : Nat → ClassId} {h : Nat} {tk k1 k2 : Nat → Nat} {fm : Nat} {H : Heap} (hP : va_P D vwCl (wB h (eAll cy h)) H) : ∀ k, k < 2 → va_at D vwCl (adF h tk k1 k2 fm 20 k, sh cy (adF h tk k1 k2 fm) 20 k (S0F.1 20 k) (S0F.2 20 k)) H := by
  intro k hk
  match k, hk with
  | 0, _ => exact wB_get (k := 25) hP rfl
  | 1, _ => exact wB_get (k := 35) hP rfl
  | k + 2, hk => omega
set_option maxRecDepth 100000 in
theorem at_21 {D : va_G} {cy : Nat → ClassId} {h : Nat} {tk k1 k2 : Nat → Nat} {fm : Nat} {H : Heap} (hP : va_P D vwCl (wB h (eAll cy h)) H) : ∀ k, k < 2 → va_at D vwCl (adF h tk k1 k2 fm 21 k, sh cy (adF h tk k1 k2 fm) 21 k (S0F.1 21 k) (S0F.2 21 k)) H := by
  intro k hk
  match k, hk with
  | 0, _ => exact wB_get (k := 26) hP rfl
  | 1, _ => exact wB_get (k := 36) hP rfl
  | k + 2, hk => omega
set_option maxRecDepth 100000 in
theorem at_22 {D : va_G} {cy : Nat → ClassId} {h : Nat} {tk k1 k2 : Nat → Nat} {fm : Nat} {H : Heap} (hP : va_P D vwCl (wB h (eAll cy h)) H) : ∀ k, k < 2 → va_at D vwCl (adF h tk k1 k2 fm 22 k, sh cy (adF h tk k1 k2 fm) 22 k (S0F.1 22 k) (S0F.2 22 k)) H := by
  intro k hk
  match k, hk with
  | 0, _ => exact vpc_q (f := fun j => some (h + 25 + 2 + 1 + j)) (fun j hj => congrArg some (show h + 25 + 2 + 1 + j = h + (28 + 10 * ((6 * 0 + j) / 6) + (6 * 0 + j) % 6) by omega)) (wB_get (k := 27) hP rfl)
  | 1, _ => exact vpc_q (f := fun j => some (h + 35 + 2 + 1 + j)) (fun j hj => congrArg some (show h + 35 + 2 + 1 + j = h + (28 + 10 * ((6 * 1 + j) / 6) + (6 * 1 + j) % 6) by omega)) (wB_get (k := 37) hP rfl)
  | k + 2, hk => omega
set_option maxRecDepth 100000 in
theorem at_23 {D : va_G} {cy : Nat → ClassId} {h : Nat} {tk k1 k2 : Nat → Nat} {fm : Nat} {H : Heap} (hP : va_P D vwCl (wB h (eAll cy h)) H) : ∀ k, k < 12 → va_at D vwCl (adF h tk k1 k2 fm 23 k, sh cy (adF h tk k1 k2 fm) 23 k (S0F.1 23 k) (S0F.2 23 k)) H := by
  intro k hk
  match k, hk with
  | 0, _ => exact wB_get (k := 28) hP rfl
  | 1, _ => exact wB_get (k := 29) hP rfl
  | 2, _ => exact wB_get (k := 30) hP rfl
  | 3, _ => exact wB_get (k := 31) hP rfl
  | 4, _ => exact wB_get (k := 32) hP rfl
  | 5, _ => exact wB_get (k := 33) hP rfl
  | 6, _ => exact wB_get (k := 38) hP rfl
  | 7, _ => exact wB_get (k := 39) hP rfl
  | 8, _ => exact wB_get (k := 40) hP rfl
  | 9, _ => exact wB_get (k := 41) hP rfl
  | 10, _ => exact wB_get (k := 42) hP rfl
  | 11, _ => exact wB_get (k := 43) hP rfl
  | k + 12, hk => omega
set_option maxRecDepth 100000 in
theorem at_24 {D : va_G} {cy : Nat → ClassId} {h : Nat} {tk k1 k2 : Nat → Nat} {fm : Nat} {H : Heap} (hP : va_P D vwCl (wB h (eAll cy h)) H) : ∀ k, k < 2 → va_at D vwCl (adF h tk k1 k2 fm 24 k, sh cy (adF h tk k1 k2 fm) 24 k (S0F.1 24 k) (S0F.2 24 k)) H := by
  intro k hk
  match k, hk with
  | 0, _ => exact wB_get (k := 34) hP rfl
  | 1, _ => exact wB_get (k := 44) hP rfl
  | k + 2, hk => omega
set_option maxRecDepth 100000 in
theorem at_30 {D : va_G} {cy : Nat → ClassId} {h : Nat} {tk k1 k2 : Nat → Nat} {fm : Nat} {H : Heap} (hP : va_P D vwCl (wB h (eAll cy h)) H) : ∀ k, k < 1 → va_at D vwCl (adF h tk k1 k2 fm 30 k, sh cy (adF h tk k1 k2 fm) 30 k (S0F.1 30 k) (S0F.2 30 k)) H := by
  intro k hk
  match k, hk with
  | 0, _ => exact wB_get (k := 66) hP rfl
  | k + 1, hk => omega
set_option maxRecDepth 100000 in
theorem at_31 {D : va_G} {cy : Nat → ClassId} {h : Nat} {tk k1 k2 : Nat → Nat} {fm : Nat} {H : Heap} (hP : va_P D vwCl (wB h (eAll cy h)) H) : ∀ k, k < 25 → va_at D vwCl (adF h tk k1 k2 fm 31 k, sh cy (adF h tk k1 k2 fm) 31 k (S0F.1 31 k) (S0F.2 31 k)) H := by
  intro k hk
  match k, hk with
  | 0, _ => exact wB_get (k := 67) hP rfl
  | 1, _ => exact wB_get (k := 68) hP rfl
  | 2, _ => exact wB_get (k := 69) hP rfl
  | 3, _ => exact wB_get (k := 70) hP rfl
  | 4, _ => exact wB_get (k := 71) hP rfl
  | 5, _ => exact wB_get (k := 72) hP rfl
  | 6, _ => exact wB_get (k := 73) hP rfl
  | 7, _ => exact wB_get (k := 74) hP rfl
  | 8, _ => exact wB_get (k := 75) hP rfl
  | 9, _ => exact wB_get (k := 76) hP rfl
  | 10, _ => exact wB_get (k := 77) hP rfl
  | 11, _ => exact wB_get (k := 78) hP rfl
  | 12, _ => exact wB_get (k := 79) hP rfl
  | 13, _ => exact wB_get (k := 80) hP rfl
  | 14, _ => exact wB_get (k := 81) hP rfl
  | 15, _ => exact wB_get (k := 82) hP rfl
  | 16, _ => exact wB_get (k := 83) hP rfl
  | 17, _ => exact wB_get (k := 84) hP rfl
  | 18, _ => exact wB_get (k := 86) hP rfl
  | 19, _ => exact wB_get (k := 87) hP rfl
  | 20, _ => exact wB_get (k := 88) hP rfl
  | 21, _ => exact wB_get (k := 89) hP rfl
  | 22, _ => exact wB_get (k := 91) hP rfl
  | 23, _ => exact wB_get (k := 92) hP rfl
  | 24, _ => exact wB_get (k := 93) hP rfl
  | k + 25, hk => omega
set_option maxRecDepth 100000 in
theorem at_32 {D : va_G} {cy : Nat → ClassId} {h : Nat} {tk k1 k2 : Nat → Nat} {fm : Nat} {H : Heap} (hP : va_P D vwCl (wB h (eAll cy h)) H) : ∀ k, k < 2 → va_at D vwCl (adF h tk k1 k2 fm 32 k, sh cy (adF h tk k1 k2 fm) 32 k (S0F.1 32 k) (S0F.2 32 k)) H := by
  intro k hk
  match k, hk with
  | 0, _ => exact wB_get (k := 85) hP rfl
  | 1, _ => exact wB_get (k := 90) hP rfl
  | k + 2, hk => omega
theorem csF_mem {x : Nat × Nat} (h : x ∈ csF) : x.1 < 33 ∧ x.2 < cnt x.1 := by
  obtain ⟨c, hc, q⟩ := List.mem_flatMap.mp h
  obtain ⟨k, hk, q⟩ := List.mem_map.mp q
  cases q
  exact ⟨List.mem_range.mp hc, List.mem_range.mp hk⟩
theorem all_at {D : va_G} {cy : Nat → ClassId} {h : Nat} {tk k1 k2 : Nat → Nat} {fm : Nat} {H : Heap} (hP : va_P D vwCl (wB h (eAll cy h)) H) : va_P D vwCl (Wd csF cy (adF h tk k1 k2 fm) S0F) H := by
  intro i q hq
  obtain ⟨x, hx, rfl⟩ := wd_q hq
  obtain ⟨hc, hk⟩ := csF_mem (List.mem_of_getElem? hx)
  obtain ⟨c, k⟩ := x
  match c, hc, hk with
  | 0, _, hk => exact at_0 hP k hk
  | 1, _, hk => exact at_1 hP k hk
  | 2, _, hk => exact at_2 hP k hk
  | 3, _, hk => exact at_3 hP k hk
  | 4, _, hk => exact at_4 hP k hk
  | 5, _, hk => exact at_5 hP k hk
  | 6, _, hk => exact at_6 hP k hk
  | 7, _, hk => exact at_7 hP k hk
  | 8, _, hk => exact at_8 hP k hk
  | 9, _, hk => exact at_9 hP k hk
  | 10, _, hk => exact at_10 hP k hk
  | 11, _, hk => exact at_11 hP k hk
  | 12, _, hk => exact at_12 hP k hk
  | 13, _, hk => exact at_13 hP k hk
  | 14, _, hk => exact at_14 hP k hk
  | 15, _, hk => exact at_15 hP k hk
  | 16, _, hk => exact at_16 hP k hk
  | 17, _, hk => exact at_17 hP k hk
  | 18, _, hk => exact at_18 hP k hk
  | 19, _, hk => exact at_19 hP k hk
  | 20, _, hk => exact at_20 hP k hk
  | 21, _, hk => exact at_21 hP k hk
  | 22, _, hk => exact at_22 hP k hk
  | 23, _, hk => exact at_23 hP k hk
  | 24, _, hk => exact at_24 hP k hk
  | 25, _, hk => exact absurd hk (Nat.not_lt_zero _)
  | 26, _, hk => exact absurd hk (Nat.not_lt_zero _)
  | 27, _, hk => exact absurd hk (Nat.not_lt_zero _)
  | 28, _, hk => exact absurd hk (Nat.not_lt_zero _)
  | 29, _, hk => exact absurd hk (Nat.not_lt_zero _)
  | 30, _, hk => exact at_30 hP k hk
  | 31, _, hk => exact at_31 hP k hk
  | 32, _, hk => exact at_32 hP k hk
  | c + 33, hc, _ => exact absurd hc (by show ¬ c + 33 < 33; omega)
theorem csF_len : csF.length = 94 := by decide +kernel
theorem csF_inj : ∀ i, i < 94 → ∀ j, j < 94 → offF (csF.getD i (0, 0)).1 (csF.getD i (0, 0)).2 = offF (csF.getD j (0, 0)).1 (csF.getD j (0, 0)).2 → i = j := by decide +kernel
theorem adF_ok (h : Nat) (tk k1 k2 : Nat → Nat) (fm : Nat) : AdOk csF (adF h tk k1 k2 fm) := by
  intro i j x y hx hy e
  have hi := (List.getElem?_eq_some_iff.mp hx).1
  have hj := (List.getElem?_eq_some_iff.mp hy).1
  rw [csF_len] at hi hj
  have ex : csF.getD i (0, 0) = x := by rw [List.getD_eq_getElem?_getD, hx]; rfl
  have ey : csF.getD j (0, 0) = y := by rw [List.getD_eq_getElem?_getD, hy]; rfl
  refine csF_inj i hi j hj ?_
  rw [ex, ey]
  rw [adF_lo _ _ _ _ _ _ _ (csF_mem (List.mem_of_getElem? hx)).1, adF_lo _ _ _ _ _ _ _ (csF_mem (List.mem_of_getElem? hy)).1] at e
  omega
theorem gA_ge {h : Nat} {tk k1 k2 : Nat → Nat} {fm q : Nat} (hq : gA csF (adF h tk k1 k2 fm) q) : h ≤ q := by
  obtain ⟨x, hx, rfl⟩ := hq
  rw [adF_lo _ _ _ _ _ _ _ (csF_mem hx).1]
  exact Nat.le_add_right _ _
