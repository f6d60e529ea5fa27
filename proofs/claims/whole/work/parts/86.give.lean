/-! WHAT IS HANDED ON: the numbers -/
/-- j is a child of h, born by the year Y -/
def chd (P : Nat → Nat → Nat) (Y h j : Nat) : Bool := decide ((P 2 j = h + 1 ∨ P 3 j = h + 1) ∧ P 0 j ≤ Y)
def kc (P : Nat → Nat → Nat) (n Y h : Nat) : Nat := fb_ct (chd P Y h) n
def GG (P : Nat → Nat → Nat) (n Y x : Nat) : Nat → Nat → Nat → Nat
  | 0, _, _ => 0
  | d + 1, h, y => if Y < P 1 h then (if x = h then y else 0) else fb_sm (fun j => if chd P Y h j = true then GG P n Y x d j (y / kc P n Y h) else 0) n
def LL (P : Nat → Nat → Nat) (n Y : Nat) : Nat → Nat → Nat → Nat
  | 0, _, _ => 0
  | d + 1, h, y => if Y < P 1 h then 0 else (y - y / kc P n Y h * kc P n Y h) + fb_sm (fun j => if chd P Y h j = true then LL P n Y d j (y / kc P n Y h) else 0) n
/-- parents come before children -/
def Fam (P : Nat → Nat → Nat) (n : Nat) : Prop := ∀ j, j < n → P 2 j ≤ j ∧ P 3 j ≤ j
theorem chd_lt {P : Nat → Nat → Nat} {n Y h j : Nat} (hf : Fam P n) (hj : j < n) (h1 : chd P Y h j = true) : h < j := by
  unfold chd at h1
  rw [decide_eq_true_eq] at h1
  have := hf j hj
  omega
theorem GG_fix {P : Nat → Nat → Nat} {n Y x : Nat} (hf : Fam P n) : ∀ d d' h y, n ≤ h + d → n ≤ h + d' → h < n → GG P n Y x d h y = GG P n Y x d' h y := by
  intro d
  induction d with
  | zero => intro d' h y a b c; omega
  | succ d ih =>
    intro d' h y a b c
    cases d' with
    | zero => omega
    | succ d' =>
      unfold GG
      by_cases e : Y < P 1 h
      · rw [if_pos e, if_pos e]
      · rw [if_neg e, if_neg e]
        refine fb_sm_cong (fun j hj => ?_)
        by_cases q : chd P Y h j = true
        · have := chd_lt hf hj q
          rw [if_pos q, if_pos q, ih d' j _ (by omega) (by omega) hj]
        · rw [if_neg q, if_neg q]
theorem LL_fix {P : Nat → Nat → Nat} {n Y : Nat} (hf : Fam P n) : ∀ d d' h y, n ≤ h + d → n ≤ h + d' → h < n → LL P n Y d h y = LL P n Y d' h y := by
  intro d
  induction d with
  | zero => intro d' h y a b c; omega
  | succ d ih =>
    intro d' h y a b c
    cases d' with
    | zero => omega
    | succ d' =>
      unfold LL
      by_cases e : Y < P 1 h
      · rw [if_pos e, if_pos e]
      · rw [if_neg e, if_neg e]
        refine congrArg _ (fb_sm_cong (fun j hj => ?_))
        by_cases q : chd P Y h j = true
        · have := chd_lt hf hj q
          rw [if_pos q, if_pos q, ih d' j _ (by omega) (by omega) hj]
        · rw [if_neg q, if_neg q]
def giv (P : Nat → Nat → Nat) (n Y h y x : Nat) : Nat := GG P n Y x n h y
def lap (P : Nat → Nat → Nat) (n Y h y : Nat) : Nat := LL P n Y n h y
theorem giv_a {P : Nat → Nat → Nat} {n Y h y x : Nat} (hh : h < n) (e : Y < P 1 h) : giv P n Y h y x = if x = h then y else 0 := by
  unfold giv
  cases n with
  | zero => omega
  | succ n => rw [GG, if_pos e]
theorem lap_a {P : Nat → Nat → Nat} {n Y h y : Nat} (hh : h < n) (e : Y < P 1 h) : lap P n Y h y = 0 := by
  unfold lap
  cases n with
  | zero => omega
  | succ n => rw [LL, if_pos e]
theorem giv_d {P : Nat → Nat → Nat} {n Y h y x : Nat} (hf : Fam P n) (hh : h < n) (e : ¬ Y < P 1 h) : giv P n Y h y x = fb_sm (fun j => if chd P Y h j = true then giv P n Y j (y / kc P n Y h) x else 0) n := by
  have e1 : giv P n Y h y x = GG P n Y x (n + 1) h y := GG_fix hf n (n + 1) h y (by omega) (by omega) hh
  rw [e1, GG, if_neg e]; rfl
theorem lap_d {P : Nat → Nat → Nat} {n Y h y : Nat} (hf : Fam P n) (hh : h < n) (e : ¬ Y < P 1 h) : lap P n Y h y = (y - y / kc P n Y h * kc P n Y h) + fb_sm (fun j => if chd P Y h j = true then lap P n Y j (y / kc P n Y h) else 0) n := by
  have e1 : lap P n Y h y = LL P n Y (n + 1) h y := LL_fix hf n (n + 1) h y (by omega) (by omega) hh
  rw [e1, LL, if_neg e]; rfl
theorem sm_0 {f : Nat → Nat} {n : Nat} (h : ∀ k, k < n → f k = 0) : fb_sm f n = 0 := by
  have := fb_sm_cong (f := f) (g := fun _ => 0) h
  rw [this, fb_sm_const]; omega
theorem sm_x {f : Nat → Nat → Nat} {n m : Nat} : fb_sm (fun x => fb_sm (fun j => f x j) m) n = fb_sm (fun j => fb_sm (fun x => f x j) n) m := by
  induction m with
  | zero => exact sm_0 (fun _ _ => rfl)
  | succ m ih =>
    rw [fb_sm_succ, ← ih, ← fb_sm_add]
    rfl
theorem sm_ct {p : Nat → Bool} {n c : Nat} : fb_sm (fun j => if p j = true then c else 0) n = fb_ct p n * c := by
  induction n with
  | zero => simp [fb_sm, fb_ct]
  | succ n ih =>
    rw [fb_sm_succ, fb_ct_succ, ih, Nat.add_mul]
    cases p n <;> simp
theorem div_mul_le' (y k : Nat) : y / k * k ≤ y := Nat.div_mul_le_self y k
/-- nothing is lost -/
theorem giv_sum {P : Nat → Nat → Nat} {n Y : Nat} (hf : Fam P n) : ∀ d h y, n ≤ h + d → h < n → fb_sm (fun x => giv P n Y h y x) n + lap P n Y h y = y := by
  intro d
  induction d with
  | zero => intro h y a b; omega
  | succ d ih =>
    intro h y a b
    by_cases e : Y < P 1 h
    · have e1 : fb_sm (fun x => giv P n Y h y x) n = fb_sm (fun k => if k = h then y else 0) n := fb_sm_cong (fun k _ => giv_a b e)
      have e2 : fb_sm (fun k => if k = h then y else 0) n + 0 = fb_sm (fun _ => 0) n + y := fb_sm_upd (fun _ => 0) y b
      have e3 : fb_sm (fun _ => 0) n = 0 := sm_0 (fun _ _ => rfl)
      rw [e1, lap_a b e]
      omega
    · have e1 : fb_sm (fun x => giv P n Y h y x) n = fb_sm (fun x => fb_sm (fun j => if chd P Y h j = true then giv P n Y j (y / kc P n Y h) x else 0) n) n := fb_sm_cong (fun k _ => giv_d hf b e)
      rw [e1, sm_x, lap_d hf b e]
      have e3 : fb_sm (fun j => fb_sm (fun x => if chd P Y h j = true then giv P n Y j (y / kc P n Y h) x else 0) n) n + fb_sm (fun j => if chd P Y h j = true then lap P n Y j (y / kc P n Y h) else 0) n = fb_sm (fun j => if chd P Y h j = true then y / kc P n Y h else 0) n := by
        rw [← fb_sm_add]
        refine fb_sm_cong (fun j hj => ?_)
        by_cases q : chd P Y h j = true
        · have := chd_lt hf hj q
          simp only [if_pos q]
          exact ih j _ (by omega) hj
        · simp only [if_neg q]
          rw [sm_0 (fun _ _ => rfl)]
      rw [sm_ct] at e3
      have e4 : fb_ct (chd P Y h) n = kc P n Y h := rfl
      rw [e4, Nat.mul_comm] at e3
      have e5 := div_mul_le' y (kc P n Y h)
      omega
theorem giv_0 {P : Nat → Nat → Nat} {n Y h : Nat} (hf : Fam P n) (hh : h < n) : (∀ x, x < n → giv P n Y h 0 x = 0) ∧ lap P n Y h 0 = 0 := by
  have := giv_sum hf n h 0 (Y := Y) (by omega) hh
  exact ⟨fb_sm_zero (f := fun x => giv P n Y h 0 x) (by omega), by omega⟩
