/-! HOW MANY PARCELS THERE CAN BE -/
def pr (k : Nat) : Nat := [2, 3, 5, 7, 11, 13, 17, 19, 23, 29].getD k 1
/-- the prime numbers of c -/
def vt (c k : Nat) : Nat := if c = 0 then 0 else fb_ct (fun a => decide (c % pr k ^ (a + 1) = 0)) 5
def vl (e : Nat → Nat) : Nat → Nat
  | 0 => 1
  | k + 1 => vl e k * pr k ^ e k
theorem vl_add (e f : Nat → Nat) : ∀ m, vl (fun k => e k + f k) m = vl e m * vl f m := by
  intro m
  induction m with
  | zero => rfl
  | succ m ih => rw [vl, vl, vl, ih, Nat.pow_add, Nat.mul_mul_mul_comm]
theorem vl_cong {e f : Nat → Nat} : ∀ {m}, (∀ k, k < m → e k = f k) → vl e m = vl f m := by
  intro m
  induction m with
  | zero => intro _; rfl
  | succ m ih => intro h; rw [vl, vl, ih (fun k hk => h k (by omega)), h m (by omega)]
theorem vl_0 : ∀ m, vl (fun _ => 0) m = 1 := by
  intro m
  induction m with
  | zero => rfl
  | succ m ih => rw [vl, ih]; simp
set_option maxRecDepth 100000 in
theorem vl_all : ∀ c : Fin 31, c.val = 0 ∨ vl (vt c.val) 10 = c.val := by decide +kernel
set_option maxRecDepth 100000 in
theorem wt_all : ∀ c : Fin 31, fb_sm (fun k => pr k * vt c.val k) 10 ≤ c.val := by decide +kernel
theorem fb_sm_mulc (a : Nat) (f : Nat → Nat) : ∀ n, a * fb_sm f n = fb_sm (fun j => a * f j) n := by
  intro n
  induction n with
  | zero => rfl
  | succ n ih => rw [fb_sm_succ, fb_sm_succ, Nat.mul_add, ih]
def AA (P : Nat → Nat → Nat) (n Y h k : Nat) : Nat := fb_sm (fun j => vt (kc P n Y j) k) h
theorem AA_mono {P : Nat → Nat → Nat} {n Y h h' k : Nat} (q : h ≤ h') : AA P n Y h k ≤ AA P n Y h' k := by
  obtain ⟨d, rfl⟩ : ∃ d, h' = h + d := ⟨h' - h, by omega⟩
  exact fb_sm_mono _ _ _
theorem AA_s {P : Nat → Nat → Nat} {n Y h k : Nat} : AA P n Y (h + 1) k = AA P n Y h k + vt (kc P n Y h) k := rfl
def kb (i : Nat) : Nat := if i = 0 then 0 else if i = 1 then 1 else 2
theorem one_le (a : Nat) : ∀ n, fb_sm (fun j => if j + 1 = a then 1 else 0) n ≤ if a ≤ n then 1 else 0 := by
  intro n
  induction n with
  | zero =>
    show (0 : Nat) ≤ _
    exact Nat.zero_le _
  | succ n ih =>
    rw [fb_sm_succ]
    by_cases e : n + 1 = a
    · rw [if_pos e, if_pos (by omega)]
      rw [if_neg (by omega)] at ih
      omega
    · rw [if_neg e]
      by_cases e2 : a ≤ n
      · rw [if_pos e2] at ih
        rw [if_pos (by omega)]; omega
      · rw [if_neg e2] at ih
        rw [if_neg (by omega)]; omega
theorem one_le1 (a n : Nat) : fb_sm (fun j => if j + 1 = a then 1 else 0) n ≤ 1 := by
  have := one_le a n
  by_cases e : a ≤ n
  · rw [if_pos e] at this; exact this
  · rw [if_neg e] at this; omega
theorem par_le {P : Nat → Nat → Nat} {n Y : Nat} (hf : Fam P n) {i : Nat} (hi : i < n) : fb_sm (fun j => if chd P Y j i = true then 1 else 0) n ≤ kb i := by
  have h := hf i hi
  have g : ∀ j, chd P Y j i = true → j + 1 = P 2 i ∨ j + 1 = P 3 i := fun j q => by
    unfold chd at q
    rw [decide_eq_true_eq] at q
    omega
  unfold kb
  by_cases e0 : i = 0
  · rw [if_pos e0, sm_0 (fun j hj => if_neg (fun q => by have := g j q; omega))]; exact Nat.le_refl _
  · rw [if_neg e0]
    by_cases e1 : i = 1
    · rw [if_pos e1]
      refine Nat.le_trans (fb_sm_le (g := fun j => if j + 1 = 1 then 1 else 0) (fun j hj => ?_)) (one_le1 1 n)
      by_cases q : chd P Y j i = true
      · have := g j q
        rw [if_pos q, if_pos (by omega)]; exact Nat.le_refl _
      · rw [if_neg q]; exact Nat.zero_le _
    · rw [if_neg e1]
      refine Nat.le_trans (fb_sm_le (g := fun j => (if j + 1 = P 2 i then 1 else 0) + (if j + 1 = P 3 i then 1 else 0)) (fun j hj => ?_)) ?_
      · by_cases q : chd P Y j i = true
        · rw [if_pos q]
          rcases g j q with r | r
          · rw [if_pos r]; omega
          · rw [if_pos r]; omega
        · rw [if_neg q]; exact Nat.zero_le _
      · rw [fb_sm_add]
        have := one_le1 (P 2 i) n
        have := one_le1 (P 3 i) n
        omega
theorem kc_sum {P : Nat → Nat → Nat} {n Y : Nat} (hf : Fam P n) (hn : n ≤ 30) : fb_sm (fun j => kc P n Y j) n ≤ 57 := by
  have e1 : fb_sm (fun j => kc P n Y j) n = fb_sm (fun j => fb_sm (fun i => if chd P Y j i = true then 1 else 0) n) n := fb_sm_cong (fun j _ => by rw [sm_ct, Nat.mul_one]; rfl)
  rw [e1, sm_x]
  refine Nat.le_trans (fb_sm_le (fun i hi => par_le hf hi)) ?_
  obtain ⟨d, hd⟩ : ∃ d, 30 = n + d := ⟨30 - n, by omega⟩
  have h1 := fb_sm_mono kb n d
  rw [← hd] at h1
  have h2 : fb_sm kb 30 = 57 := by decide
  omega
theorem AA_w {P : Nat → Nat → Nat} {n Y h : Nat} (hf : Fam P n) (hn : n ≤ 30) (hh : h ≤ n) : fb_sm (fun k => pr k * AA P n Y h k) 10 ≤ 57 := by
  have e1 : fb_sm (fun k => pr k * AA P n Y h k) 10 = fb_sm (fun k => fb_sm (fun j => pr k * vt (kc P n Y j) k) h) 10 := fb_sm_cong (fun k _ => fb_sm_mulc _ _ _)
  rw [e1, sm_x]
  refine Nat.le_trans (fb_sm_le (g := fun j => kc P n Y j) (fun j _ => wt_all ⟨kc P n Y j, by have : kc P n Y j ≤ n := kc_le; omega⟩)) ?_
  obtain ⟨d, rfl⟩ : ∃ d, n = h + d := ⟨n - h, by omega⟩
  exact Nat.le_trans (fb_sm_mono _ h d) (kc_sum hf hn)
def pd (A : Nat → Nat) : Nat → Nat
  | 0 => 1
  | k + 1 => pd A k * (A k + 1)
def mxx (f : Nat → Nat) : Nat → Nat
  | 0 => f 0
  | a + 1 => max (f (a + 1)) (mxx f a)
theorem mxx_le {f : Nat → Nat} {a : Nat} : ∀ {b}, a ≤ b → f a ≤ mxx f b := by
  intro b
  induction b with
  | zero => intro h; have : a = 0 := by omega
            subst this; exact Nat.le_refl _
  | succ b ih =>
    intro h
    rw [mxx]
    by_cases e : a = b + 1
    · subst e; exact Nat.le_max_left _ _
    · exact Nat.le_trans (ih (by omega)) (Nat.le_max_right _ _)
def bst : Nat → Nat → Nat
  | 0, _ => 1
  | k + 1, b => mxx (fun a => bst k (b - pr k * a) * (a + 1)) (b / pr k)
theorem pr_pos : ∀ k, 0 < pr k := by
  intro k
  by_cases h : k < 10
  · have : ∀ i : Fin 10, 0 < pr i.val := by decide
    exact this ⟨k, h⟩
  · unfold pr
    have h2 : ([2, 3, 5, 7, 11, 13, 17, 19, 23, 29] : List Nat)[k]? = none := List.getElem?_eq_none (by simp; omega)
    rw [List.getD_eq_getElem?_getD, h2]
    decide
theorem pd_bst : ∀ (k b : Nat) (A : Nat → Nat), fb_sm (fun i => pr i * A i) k ≤ b → pd A k ≤ bst k b := by
  intro k
  induction k with
  | zero => intro b A _; exact Nat.le_refl _
  | succ k ih =>
    intro b A h
    rw [fb_sm_succ] at h
    have h1 := ih (b - pr k * A k) A (by omega)
    have h2 : A k ≤ b / pr k := (Nat.le_div_iff_mul_le (pr_pos k)).mpr (by rw [Nat.mul_comm]; omega)
    rw [pd, bst]
    exact Nat.le_trans (Nat.mul_le_mul_right _ h1) (mxx_le (f := fun a => bst k (b - pr k * a) * (a + 1)) h2)
set_option maxRecDepth 100000 in
theorem bst_57 : bst 10 57 ≤ 576 := by decide +kernel
theorem pd_AA {P : Nat → Nat → Nat} {n Y h : Nat} (hf : Fam P n) (hn : n ≤ 30) (hh : h ≤ n) : pd (AA P n Y h) 10 ≤ 576 := Nat.le_trans (pd_bst 10 57 _ (AA_w hf hn hh)) bst_57
set_option maxRecDepth 100000 in
theorem pd_vt : ∀ c : Fin 31, pd (vt c.val) 10 ≤ 10 := by decide +kernel
theorem pd_A1 {P : Nat → Nat → Nat} {n Y : Nat} (hn : n ≤ 30) : pd (AA P n Y 1) 10 ≤ 10 := by
  have e : AA P n Y 1 = vt (kc P n Y 0) := by funext k; unfold AA; rw [fb_sm_succ]; simp [fb_sm]
  rw [e]
  exact pd_vt ⟨kc P n Y 0, by have : kc P n Y 0 ≤ n := kc_le; omega⟩
def cdx (A e : Nat → Nat) : Nat → Nat
  | 0 => 0
  | k + 1 => cdx A e k * (A k + 1) + e k
theorem cdx_lt {A e : Nat → Nat} : ∀ {m}, (∀ k, k < m → e k ≤ A k) → cdx A e m < pd A m := by
  intro m
  induction m with
  | zero => intro _; exact Nat.zero_lt_one
  | succ m ih =>
    intro h
    have h1 := ih (fun k hk => h k (by omega))
    have h2 := h m (by omega)
    have h3 := Nat.mul_le_mul_right (A m + 1) (show cdx A e m + 1 ≤ pd A m from h1)
    rw [Nat.add_mul] at h3
    rw [cdx, pd]
    omega
theorem mix {a x y e f : Nat} (he : e ≤ a) (hf : f ≤ a) (h : x * (a + 1) + e = y * (a + 1) + f) : x = y ∧ e = f := by
  rcases Nat.lt_trichotomy x y with q | q | q
  · have h3 := Nat.mul_le_mul_right (a + 1) (show x + 1 ≤ y from q)
    rw [Nat.add_mul] at h3
    omega
  · subst q; exact ⟨rfl, by omega⟩
  · have h3 := Nat.mul_le_mul_right (a + 1) (show y + 1 ≤ x from q)
    rw [Nat.add_mul] at h3
    omega
theorem cdx_inj {A e f : Nat → Nat} : ∀ {m}, (∀ k, k < m → e k ≤ A k) → (∀ k, k < m → f k ≤ A k) → cdx A e m = cdx A f m → ∀ k, k < m → e k = f k := by
  intro m
  induction m with
  | zero => intro _ _ _ k hk; omega
  | succ m ih =>
    intro h1 h2 h3 k hk
    rw [cdx, cdx] at h3
    obtain ⟨a, b⟩ := mix (h1 m (by omega)) (h2 m (by omega)) h3
    by_cases e : k = m
    · subst e; exact b
    · exact ih (fun k hk => h1 k (by omega)) (fun k hk => h2 k (by omega)) a k (by omega)
def offs (h : Nat) : Nat := if h ≤ 1 then 0 else 10 + (h - 2) * 576
theorem prc_max {n Y v m : Nat} {P : Nat → Nat → Nat} (hf : Fam P n) (hn : n ≤ 30) {hs vs : Nat → Nat} {es : Nat → Nat → Nat} (hd : ∀ i j, i < j → j < m → ¬ (hs i = hs j ∧ vs i = vs j)) (he : ∀ i, 1 ≤ i → i < m → 1 ≤ hs i ∧ hs i < n ∧ (∀ k, es i k ≤ AA P n Y (hs i) k) ∧ vs i = v / vl (es i) 10) : m ≤ 16140 := by
  have cb : ∀ i, 1 ≤ i → i < m → cdx (AA P n Y (hs i)) (es i) 10 < (if hs i = 1 then 10 else 576) := fun i h1 h2 => by
    obtain ⟨a, b, c, d⟩ := he i h1 h2
    have l := cdx_lt (A := AA P n Y (hs i)) (e := es i) (m := 10) (fun k _ => c k)
    by_cases e : hs i = 1
    · rw [if_pos e]
      have := pd_A1 (P := P) (Y := Y) hn
      rw [e] at l ⊢
      omega
    · rw [if_neg e]
      have := pd_AA (Y := Y) hf hn (Nat.le_of_lt b)
      omega
  have hole := fb_holes 16138 (m - 1) (fun i => offs (hs (i + 1)) + cdx (AA P n Y (hs (i + 1))) (es (i + 1)) 10) (fun i hi => by
    have l := cb (i + 1) (by omega) (by omega)
    obtain ⟨a, b, c, d⟩ := he (i + 1) (by omega) (by omega)
    simp only [offs]
    by_cases e : hs (i + 1) = 1
    · rw [if_pos e] at l
      rw [if_pos (by omega)]; omega
    · rw [if_neg e] at l
      rw [if_neg (by omega)]; omega) (fun i j hij hj heq => by
    have l1 := cb (i + 1) (by omega) (by omega)
    have l2 := cb (j + 1) (by omega) (by omega)
    obtain ⟨a1, b1, c1, d1⟩ := he (i + 1) (by omega) (by omega)
    obtain ⟨a2, b2, c2, d2⟩ := he (j + 1) (by omega) (by omega)
    have heq := heq
    have hh : hs (i + 1) = hs (j + 1) := by
      unfold offs at heq
      by_cases e1 : hs (i + 1) = 1
      · rw [if_pos e1] at l1
        rw [if_pos (show hs (i + 1) ≤ 1 by omega)] at heq
        by_cases e2 : hs (j + 1) = 1
        · rw [e1, e2]
        · rw [if_neg (show ¬ hs (j + 1) ≤ 1 by omega)] at heq
          omega
      · rw [if_neg e1] at l1
        rw [if_neg (show ¬ hs (i + 1) ≤ 1 by omega)] at heq
        by_cases e2 : hs (j + 1) = 1
        · rw [if_pos e2] at l2
          rw [if_pos (show hs (j + 1) ≤ 1 by omega)] at heq
          omega
        · rw [if_neg e2] at l2
          rw [if_neg (show ¬ hs (j + 1) ≤ 1 by omega)] at heq
          omega
    rw [hh] at heq c1
    have ee := cdx_inj (m := 10) (fun k _ => c1 k) (fun k _ => c2 k) (show cdx (AA P n Y (hs (j + 1))) (es (i + 1)) 10 = cdx (AA P n Y (hs (j + 1))) (es (j + 1)) 10 by omega)
    exact hd (i + 1) (j + 1) (by omega) (by omega) ⟨hh, by rw [d1, d2, vl_cong ee]⟩)
  omega
