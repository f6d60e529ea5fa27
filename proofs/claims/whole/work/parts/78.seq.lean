/-! SUMS OVER SETS, THE NEXT ONE, THE SEQUENCE -/
def sumM (w : Nat → Nat) (s : Nat) : Nat → Nat
  | 0 => 0
  | i + 1 => sumM w s i + (if s.testBit i then w i else 0)
theorem sumM_le {w : Nat → Nat} {s n K : Nat} (h : ∀ i, i < n → w i ≤ K) : sumM w s n ≤ K * n := by
  induction n with
  | zero => exact Nat.le_refl _
  | succ n ih =>
    have a := ih (fun i hi => h i (by omega))
    have b := h n (by omega)
    unfold sumM
    rw [Nat.mul_succ]
    split <;> omega
def nf (q : Nat → Bool) : Nat → Nat → Option Nat
  | 0, _ => none
  | m + 1, i => if q i = true then some i else nf q m (i + 1)
theorem nf_some {q : Nat → Bool} : ∀ m i j, nf q m i = some j → i ≤ j ∧ j < i + m ∧ q j = true := by
  intro m
  induction m with
  | zero => intro i j h; exact absurd h (by simp [nf])
  | succ m ih =>
    intro i j h
    unfold nf at h
    by_cases e : q i = true
    · rw [if_pos e] at h
      have := Option.some.inj h
      subst this
      exact ⟨Nat.le_refl _, by omega, e⟩
    · rw [if_neg e] at h
      obtain ⟨a, b, c⟩ := ih (i + 1) j h
      exact ⟨by omega, by omega, c⟩
theorem nf_none {q : Nat → Bool} : ∀ m i, (∀ j, i ≤ j → j < i + m → q j = false) → nf q m i = none := by
  intro m
  induction m with
  | zero => intro i _; rfl
  | succ m ih =>
    intro i h
    unfold nf
    rw [if_neg (by rw [h i (by omega) (by omega)]; decide)]
    exact ih (i + 1) (fun j a b => h j (by omega) (by omega))
theorem nf_ex {q : Nat → Bool} : ∀ m i, (∃ j, i ≤ j ∧ j < i + m ∧ q j = true) → ∃ j, nf q m i = some j := by
  intro m
  induction m with
  | zero => intro i ⟨j, a, b, _⟩; omega
  | succ m ih =>
    intro i ⟨j, a, b, c⟩
    unfold nf
    by_cases e : q i = true
    · exact ⟨i, by rw [if_pos e]⟩
    · rw [if_neg e]
      refine ih (i + 1) ⟨j, ?_, by omega, c⟩
      by_cases ej : j = i
      · subst ej; exact absurd c e
      · omega
def ncode (o : Option Nat) : Int32 := match o with
  | none => -4
  | some j => nI j
/-- the one that comes next after the set s -/
def nxQ (A n : Nat) (c : Nat → Nat → Nat) (s : Nat) : Nat → Bool := fun i => fre A s i && decide (c i s + rs A n c (s ||| 2 ^ i) = rs A n c s)
def nx (A n : Nat) (c : Nat → Nat → Nat) (s : Nat) : Option Nat := nf (nxQ A n c s) n 0
def sq (A n : Nat) (c : Nat → Nat → Nat) : Nat → Nat
  | 0 => 0
  | k + 1 => match nx A n c (sq A n c k) with
    | some j => sq A n c k ||| 2 ^ j
    | none => sq A n c k
theorem sq_s {A n : Nat} {c : Nat → Nat → Nat} {k j : Nat} (h : nx A n c (sq A n c k) = some j) : sq A n c (k + 1) = sq A n c k ||| 2 ^ j := by
  show (match nx A n c (sq A n c k) with | some j => sq A n c k ||| 2 ^ j | none => sq A n c k) = _
  rw [h]
theorem ct_mono {p q : Nat → Bool} {n : Nat} (h : ∀ i, i < n → p i = true → q i = true) : fb_ct p n ≤ fb_ct q n := by
  induction n with
  | zero => exact Nat.le_refl _
  | succ n ih =>
    have a := ih (fun i hi => h i (by omega))
    unfold fb_ct
    cases hp : p n with
    | true => rw [h n (by omega) hp]; simp; omega
    | false => cases q n <;> simp <;> omega
theorem ct_lt {p q : Nat → Bool} {n j : Nat} (h : ∀ i, i < n → p i = true → q i = true) (hj : j < n) (h1 : p j = false) (h2 : q j = true) : fb_ct p n < fb_ct q n := by
  induction n with
  | zero => omega
  | succ n ih =>
    unfold fb_ct
    by_cases e : j = n
    · subst e
      have a := ct_mono (p := p) (q := q) (n := j) (fun i hi => h i (by omega))
      rw [h1, h2]; simp; omega
    · have a := ih (fun i hi => h i (by omega)) (by omega)
      cases hp : p n with
      | true => rw [h n (by omega) hp]; simp; omega
      | false => cases q n <;> simp <;> omega
set_option maxRecDepth 100000 in
theorem pc_or : ∀ s : Fin 512, ∀ j : Fin 9, s.val.testBit j.val = true ∨ pc10 (s.val ||| 2 ^ j.val) = pc10 s.val + 1 := by decide +kernel
theorem sub_0 (A : Nat) : sub 0 A := fun i h => by rw [Nat.zero_testBit] at h; exact absurd h (by decide)
theorem fre_n {A n s i : Nat} (hA : A < 2 ^ n) (h : fre A s i = true) : i < n := by
  apply Decidable.byContradiction
  intro q
  have p1 := (fre_t.mp h).1
  rw [Nat.testBit_lt_two_pow (Nat.lt_of_lt_of_le hA (Nat.pow_le_pow_right (by decide) (by omega)))] at p1
  exact absurd p1 (by decide)
theorem sub_pc {A n s : Nat} (hA : A < 2 ^ n) (hn : n ≤ 9) (h : sub s A) (hne : s ≠ A) : pc10 s < pc10 A := by
  obtain ⟨i, hi⟩ := fre_ex h hne
  obtain ⟨p1, p2⟩ := fre_t.mp hi
  exact ct_lt (j := i) (fun j _ q => h j q) (by have := fre_n hA hi; omega) p2 p1
theorem nx_ex {A n K : Nat} {c : Nat → Nat → Nat} (hA : A < 2 ^ n) (hA5 : A < 512) (hK : K ≤ 900000) (hc : ∀ i s, i < n → sub s A → fre A s i = true → c i s ≤ K) {s : Nat} (h : sub s A) (hne : s ≠ A) : ∃ j, nx A n c s = some j ∧ j < n ∧ fre A s j = true ∧ c j s + rs A n c (s ||| 2 ^ j) = rs A n c s := by
  obtain ⟨-, i, i1, i2, i3⟩ := rs_at hA hA5 hK hc h hne
  obtain ⟨j, hj⟩ := nf_ex (q := nxQ A n c s) n 0 ⟨i, by omega, by omega, by simp [nxQ, i2, i3]⟩
  obtain ⟨a, b, d⟩ := nf_some n 0 j hj
  unfold nxQ at d
  rw [Bool.and_eq_true, decide_eq_true_eq] at d
  exact ⟨j, hj, by omega, d.1, d.2⟩
theorem nx_A {A n : Nat} {c : Nat → Nat → Nat} : nx A n c A = none := by
  refine nf_none n 0 (fun j _ _ => ?_)
  unfold nxQ
  have : fre A A j = false := by unfold fre; cases A.testBit j <;> rfl
  rw [this]; rfl
theorem sq_ok {A n K : Nat} {c : Nat → Nat → Nat} (hA : A < 2 ^ n) (hn : n ≤ 9) (hA5 : A < 512) (hK : K ≤ 900000) (hc : ∀ i s, i < n → sub s A → fre A s i = true → c i s ≤ K) : ∀ k, k ≤ pc10 A → sub (sq A n c k) A ∧ pc10 (sq A n c k) = k := by
  intro k
  induction k with
  | zero => intro _; exact ⟨sub_0 A, pc10_0⟩
  | succ k ih =>
    intro hk
    obtain ⟨a, b⟩ := ih (by omega)
    have hne : sq A n c k ≠ A := fun e => by rw [e] at b; omega
    obtain ⟨j, j1, j2, j3, j4⟩ := nx_ex hA hA5 hK hc a hne
    obtain ⟨p1, p2⟩ := fre_t.mp j3
    rw [sq_s j1]
    refine ⟨or_sub a p1, ?_⟩
    have hl := sub_le a
    rcases pc_or ⟨sq A n c k, by omega⟩ ⟨j, by omega⟩ with q | q
    · simp only at q; rw [q] at p2; exact absurd p2 (by decide)
    · simp only at q; rw [q, b]
theorem sq_nx {A n K : Nat} {c : Nat → Nat → Nat} (hA : A < 2 ^ n) (hn : n ≤ 9) (hA5 : A < 512) (hK : K ≤ 900000) (hc : ∀ i s, i < n → sub s A → fre A s i = true → c i s ≤ K) {k : Nat} (hk : k < pc10 A) : ∃ j, nx A n c (sq A n c k) = some j ∧ j < n ∧ fre A (sq A n c k) j = true := by
  obtain ⟨a, b⟩ := sq_ok hA hn hA5 hK hc k (by omega)
  have hne : sq A n c k ≠ A := fun e => by rw [e] at b; omega
  obtain ⟨j, j1, j2, j3, j4⟩ := nx_ex hA hA5 hK hc a hne
  exact ⟨j, j1, j2, j3⟩
theorem sq_end {A n K : Nat} {c : Nat → Nat → Nat} (hA : A < 2 ^ n) (hn : n ≤ 9) (hA5 : A < 512) (hK : K ≤ 900000) (hc : ∀ i s, i < n → sub s A → fre A s i = true → c i s ≤ K) : sq A n c (pc10 A) = A := by
  obtain ⟨a, b⟩ := sq_ok hA hn hA5 hK hc (pc10 A) (Nat.le_refl _)
  apply Decidable.byContradiction
  intro hne
  have := sub_pc hA hn a hne
  omega
