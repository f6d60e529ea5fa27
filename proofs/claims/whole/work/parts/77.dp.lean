/-! COUNT; sets of claims, the cheapest rest -/
theorem Q_count {S : St} {ns nc np ny nb nh nd nk : Nat} {Z C P Y Bl H D K : Nat → Nat → Nat} {n ni : Nat → Nat} {B : Nat → Nat → Nat} {E : Nat → Nat → Nat → Nat} (h1 : IvS S ns Z) (h2 : IvC S nc np C) (h3 : IvP S np P) (h4 : IvY S ny np Y) (h5 : IvB S nb Bl) (h6 : IvH S nh nb H) (h7 : IvD S nd nb D) (h8 : IvK S nk nb K) (hX : ∀ t, t < 2 → IvX S t (n t) (B t)) (hI : ∀ t, t < 2 → IvI S t (ni t) (E t)) (p1 : Int32) : ∃ r, fX11_count S p1 = some r ∧ fX12_count S p1 = some r := by
  unfold fX11_count fX12_count
  have i0 := hI 0 (by decide)
  have i1 := hI 1 (by decide)
  have x0 := hX 0 (by decide)
  have x1 := hX 1 (by decide)
  by_cases e0 : p1 = 0
  · subst e0; exact ⟨nI (ni 0), by rw [if_pos rfl, i0.2.1], by rw [if_pos rfl]; show some (gA S 55 0 0) = _; rw [i0.2.2.1]⟩
  · rw [if_neg e0, if_neg e0]
    by_cases e1 : p1 = 1
    · subst e1; exact ⟨nI (ni 1), by rw [if_pos rfl, i1.2.1], by rw [if_pos rfl]; show some (gA S 55 0 1) = _; rw [i1.2.2.1]⟩
    · rw [if_neg e1, if_neg e1]
      by_cases e2 : p1 = 2
      · exact ⟨nI np, by rw [if_pos e2, h3.2.1], by rw [if_pos e2, h3.2.2.1]⟩
      · rw [if_neg e2, if_neg e2]
        by_cases e3 : p1 = 3
        · exact ⟨nI ny, by rw [if_pos e3, h4.2.1], by rw [if_pos e3, h4.2.2.1]⟩
        · rw [if_neg e3, if_neg e3]
          by_cases e4 : p1 = 4
          · exact ⟨nI nb, by rw [if_pos e4, h5.2.1], by rw [if_pos e4, h5.2.2.1]⟩
          · rw [if_neg e4, if_neg e4]
            by_cases e5 : p1 = 5
            · exact ⟨nI nh, by rw [if_pos e5, h6.2.1], by rw [if_pos e5, h6.2.2.1]⟩
            · rw [if_neg e5, if_neg e5]
              by_cases e6 : p1 = 6
              · exact ⟨nI nd, by rw [if_pos e6, h7.2.1], by rw [if_pos e6, h7.2.2.1]⟩
              · rw [if_neg e6, if_neg e6]
                by_cases e7 : p1 = 7
                · exact ⟨nI nk, by rw [if_pos e7, h8.2.1], by rw [if_pos e7, h8.2.2.1]⟩
                · rw [if_neg e7, if_neg e7]
                  by_cases e8 : p1 = 8
                  · exact ⟨nI nc, by rw [if_pos e8, h2.2.1], by rw [if_pos e8, h2.2.2.1]⟩
                  · rw [if_neg e8, if_neg e8]
                    by_cases e9 : p1 = 9
                    · exact ⟨nI ns, by rw [if_pos e9, h1.2.1], by rw [if_pos e9, h1.2.2.1]⟩
                    · rw [if_neg e9, if_neg e9]
                      by_cases e10 : p1 = 10
                      · subst e10; exact ⟨nI (n 0), by rw [if_pos rfl, x0.2.1], by rw [if_pos rfl]; show some (gA S 53 0 0) = _; rw [x0.2.2.1]⟩
                      · rw [if_neg e10, if_neg e10]
                        by_cases e11 : p1 = 11
                        · subst e11; exact ⟨nI (n 1), by rw [if_pos rfl, x1.2.1], by rw [if_pos rfl]; show some (gA S 53 0 1) = _; rw [x1.2.2.1]⟩
                        · rw [if_neg e11, if_neg e11]; exact ⟨-1, rfl, rfl⟩
/-- what of A isn't in s -/
def mis (A s : Nat) : Nat := A &&& (s ^^^ 4294967295)
theorem mis_I (A s : Nat) : nI A &&& (nI s ^^^ -1) = nI (mis A s) := by
  rw [show (-1 : Int32) = nI 4294967295 by decide, fb_xorI, fa_and]; rfl
theorem mis_t (A s : Nat) {i : Nat} (h : i < 32) : (mis A s).testBit i = (A.testBit i && !s.testBit i) := by
  unfold mis
  rw [Nat.testBit_and, Nat.testBit_xor, show (4294967295 : Nat) = 2 ^ 32 - 1 by decide, Nat.testBit_two_pow_sub_one]
  simp [h]
theorem mis_le (A s : Nat) : mis A s ≤ A := Nat.and_le_left
def sub (s A : Nat) : Prop := ∀ i, s.testBit i = true → A.testBit i = true
theorem sub_le {s A : Nat} (h : sub s A) : s ≤ A := by
  have e : s &&& A = s := by
    apply Nat.eq_of_testBit_eq
    intro i
    rw [Nat.testBit_and]
    cases hs : s.testBit i with
    | false => rfl
    | true => rw [h i hs]; rfl
  rw [← e]; exact Nat.and_le_right
theorem sub_mis {s A : Nat} (hs : s < 4294967296) : mis s A = 0 ↔ sub s A := by
  constructor
  · intro h i hi
    by_cases h32 : i < 32
    · have := mis_t s A h32
      rw [h, Nat.zero_testBit, hi] at this
      cases hA : A.testBit i with
      | true => rfl
      | false => rw [hA] at this; exact absurd this (by decide)
    · rw [Nat.testBit_lt_two_pow (show s < 2 ^ i from Nat.lt_of_lt_of_le hs (show 2 ^ 32 ≤ 2 ^ i from Nat.pow_le_pow_right (by decide) (by omega)))] at hi
      exact absurd hi (by decide)
  · intro h
    apply Nat.eq_of_testBit_eq
    intro i
    rw [Nat.zero_testBit]
    by_cases h32 : i < 32
    · rw [mis_t s A h32]
      cases hs2 : s.testBit i with
      | false => rfl
      | true => rw [h i hs2]; rfl
    · exact Nat.testBit_lt_two_pow (Nat.lt_of_le_of_lt (mis_le s A) (Nat.lt_of_lt_of_le hs (show 2 ^ 32 ≤ 2 ^ i from Nat.pow_le_pow_right (by decide) (by omega))))
theorem or_bit (s i j : Nat) : (s ||| 2 ^ i).testBit j = (s.testBit j || decide (i = j)) := by rw [Nat.testBit_or, Nat.testBit_two_pow]
theorem or_sub {s A i : Nat} (h : sub s A) (hi : A.testBit i = true) : sub (s ||| 2 ^ i) A := by
  intro j hj
  rw [or_bit] at hj
  by_cases e : i = j
  · subst e; exact hi
  · rw [decide_eq_false e, Bool.or_false] at hj; exact h j hj
theorem or_gt {s i : Nat} (hi : s.testBit i = false) : s < s ||| 2 ^ i := by
  refine Nat.lt_of_le_of_ne Nat.left_le_or (fun e => ?_)
  have := or_bit s i i
  rw [← e, hi] at this
  simp at this
/-- the least over the i < n that p lets, from x down -/
def mn (x : Nat) (p : Nat → Bool) (f : Nat → Nat) : Nat → Nat
  | 0 => x
  | i + 1 => if p i = true ∧ f i < mn x p f i then f i else mn x p f i
theorem mn_congr {x : Nat} {p : Nat → Bool} {f g : Nat → Nat} {n : Nat} (h : ∀ i, i < n → p i = true → f i = g i) : mn x p f n = mn x p g n := by
  induction n with
  | zero => rfl
  | succ n ih =>
    unfold mn
    rw [ih (fun i hi => h i (by omega))]
    by_cases e : p n = true
    · rw [h n (by omega) e]
    · rw [if_neg (fun z => e z.1), if_neg (fun z => e z.1)]
theorem mn_le {x : Nat} {p : Nat → Bool} {f : Nat → Nat} {n : Nat} : mn x p f n ≤ x ∧ ∀ i, i < n → p i = true → mn x p f n ≤ f i := by
  induction n with
  | zero => exact ⟨Nat.le_refl _, fun i hi => by omega⟩
  | succ n ih =>
    unfold mn
    by_cases e : p n = true ∧ f n < mn x p f n
    · rw [if_pos e]
      refine ⟨by omega, fun i hi hp => ?_⟩
      by_cases ei : i = n
      · subst ei; exact Nat.le_refl _
      · have := ih.2 i (by omega) hp; omega
    · rw [if_neg e]
      refine ⟨ih.1, fun i hi hp => ?_⟩
      by_cases ei : i = n
      · subst ei
        apply Decidable.byContradiction
        intro c
        exact e ⟨hp, by omega⟩
      · exact ih.2 i (by omega) hp
theorem mn_at {x : Nat} {p : Nat → Bool} {f : Nat → Nat} {n : Nat} : mn x p f n = x ∨ ∃ i, i < n ∧ p i = true ∧ mn x p f n = f i := by
  induction n with
  | zero => exact Or.inl rfl
  | succ n ih =>
    unfold mn
    by_cases e : p n = true ∧ f n < mn x p f n
    · rw [if_pos e]; exact Or.inr ⟨n, by omega, e.1, rfl⟩
    · rw [if_neg e]
      rcases ih with ih | ⟨i, a, b, c⟩
      · exact Or.inl ih
      · exact Or.inr ⟨i, by omega, b, c⟩
def fre (A s : Nat) : Nat → Bool := fun i => A.testBit i && !s.testBit i
theorem fre_t {A s i : Nat} : fre A s i = true ↔ A.testBit i = true ∧ s.testBit i = false := by
  unfold fre
  cases A.testBit i <;> cases s.testBit i <;> simp
def RR (A n : Nat) (c : Nat → Nat → Nat) : Nat → Nat → Nat
  | 0, _ => 0
  | m + 1, s => mn (if s = A then 0 else 1000000000) (fre A s) (fun i => c i s + RR A n c m (s ||| 2 ^ i)) n
theorem RR_eq {A n : Nat} {c : Nat → Nat → Nat} : ∀ m m' s, sub s A → A < s + m → A < s + m' → RR A n c m s = RR A n c m' s := by
  intro m
  induction m with
  | zero => intro m' s h a b; have := sub_le h; omega
  | succ m ih =>
    intro m' s h a b
    cases m' with
    | zero => have := sub_le h; omega
    | succ m' =>
      unfold RR
      refine mn_congr (fun i hi hp => ?_)
      obtain ⟨p1, p2⟩ := fre_t.mp hp
      have g := or_gt p2
      rw [ih m' (s ||| 2 ^ i) (or_sub h p1) (by omega) (by omega)]
def rs (A n : Nat) (c : Nat → Nat → Nat) (s : Nat) : Nat := RR A n c (A + 1) s
theorem rs_eq {A n : Nat} {c : Nat → Nat → Nat} {s : Nat} (h : sub s A) : rs A n c s = mn (if s = A then 0 else 1000000000) (fre A s) (fun i => c i s + rs A n c (s ||| 2 ^ i)) n := by
  unfold rs
  rw [RR]
  refine mn_congr (fun i hi hp => ?_)
  obtain ⟨p1, p2⟩ := fre_t.mp hp
  have g := or_gt p2
  rw [RR_eq A (A + 1) (s ||| 2 ^ i) (or_sub h p1) (by omega) (by omega)]
theorem rs_A {A n : Nat} {c : Nat → Nat → Nat} : rs A n c A = 0 := by
  rw [rs_eq (fun _ h => h), if_pos rfl]
  have := (mn_le (x := 0) (p := fre A A) (f := fun i => c i A + rs A n c (A ||| 2 ^ i)) (n := n)).1
  omega
theorem fre_ex {A s : Nat} (h : sub s A) (hne : s ≠ A) : ∃ i, fre A s i = true := by
  apply Classical.byContradiction
  intro q
  apply hne
  apply Nat.eq_of_testBit_eq
  intro i
  cases hs : s.testBit i with
  | true => rw [h i hs]
  | false =>
    cases hA : A.testBit i with
    | false => rfl
    | true => exact absurd ⟨i, fre_t.mpr ⟨hA, hs⟩⟩ q
/-- bounds, and the least is met -/
theorem rs_bd {A n K : Nat} {c : Nat → Nat → Nat} (hA : A < 2 ^ n) (hA5 : A < 512) (hK : K ≤ 900000) (hc : ∀ i s, i < n → sub s A → fre A s i = true → c i s ≤ K) : ∀ m s, sub s A → A ≤ s + m → rs A n c s ≤ K * (A - s) := by
  intro m
  induction m with
  | zero =>
    intro s h a
    have := sub_le h
    have e : s = A := by omega
    subst e
    rw [rs_A]; exact Nat.zero_le _
  | succ m ih =>
    intro s h a
    by_cases e : s = A
    · subst e; rw [rs_A]; exact Nat.zero_le _
    · obtain ⟨i, hi⟩ := fre_ex h e
      obtain ⟨p1, p2⟩ := fre_t.mp hi
      have hin : i < n := by
        apply Decidable.byContradiction
        intro q
        rw [Nat.testBit_lt_two_pow (Nat.lt_of_lt_of_le hA (Nat.pow_le_pow_right (by decide) (by omega)))] at p1
        exact absurd p1 (by decide)
      have g := or_gt p2
      have l := sub_le (or_sub h p1)
      have r1 := ih (s ||| 2 ^ i) (or_sub h p1) (by omega)
      have r2 := hc i s hin h hi
      rw [rs_eq h]
      have r3 := (mn_le (x := if s = A then 0 else 1000000000) (p := fre A s) (f := fun i => c i s + rs A n c (s ||| 2 ^ i)) (n := n)).2 i hin hi
      have r4 : K * (A - (s ||| 2 ^ i)) + K ≤ K * (A - s) := by
        rw [← Nat.mul_succ]; exact Nat.mul_le_mul_left _ (by omega)
      omega
theorem rs_at {A n K : Nat} {c : Nat → Nat → Nat} (hA : A < 2 ^ n) (hA5 : A < 512) (hK : K ≤ 900000) (hc : ∀ i s, i < n → sub s A → fre A s i = true → c i s ≤ K) {s : Nat} (h : sub s A) (hne : s ≠ A) : rs A n c s < 1000000000 ∧ ∃ i, i < n ∧ fre A s i = true ∧ rs A n c s = c i s + rs A n c (s ||| 2 ^ i) := by
  have b := rs_bd hA hA5 hK hc (A + 1) s h (by omega)
  have b2 : K * (A - s) ≤ 900000 * 511 := Nat.mul_le_mul hK (by omega)
  refine ⟨by omega, ?_⟩
  have e := rs_eq (n := n) (c := c) h
  rw [if_neg hne] at e
  rcases mn_at (x := 1000000000) (p := fre A s) (f := fun i => c i s + rs A n c (s ||| 2 ^ i)) (n := n) with q | ⟨i, q1, q2, q3⟩
  · rw [q] at e; omega
  · exact ⟨i, q1, q2, e.trans q3⟩
