/-! WHO OWNS A CELL: 0 settlements, 1 claims, 2 persons, 3 sayings, 4 blocks, 5 holds, 6 deeds, 7 takings, 8 + t books, 10 + t texts, 12 + t items in force; 99: scratch -/
def ownI (c n k : Nat) : Nat := if c = 7 ∧ k = 2 then 0 else if c = 0 ∧ k = 6 then 1 else if c = 6 ∧ k = 6 then 2 else if c = 6 ∧ k = 11 then 3 else if c = 4 ∧ k = 3 then 4 else if c = 4 ∧ k = 8 then 5 else if c = 4 ∧ k = 12 then 6 else if c = 4 ∧ k = 16 then 7 else if c = 9 ∧ k = 3 then 8 + n else if c = 8 ∧ k = 1 then 10 + n else if c = 9 ∧ k = 6 then 12 + n else if c = 3 then (if n < 68 then 12 + n / 34 else 99) else if c = 11 then (if k = 25 then 0 else if k = 23 then 1 else if k = 6 then 2 else if k = 11 then 3 else if k = 13 then 4 else if k = 15 then 5 else if k = 17 then 6 else if k = 19 then 7 else 99) else 99
def ownA (c n i : Nat) : Nat := if c < 12 then 99 else if c < 18 then 1 else if c < 20 then 99 else if c < 23 then 4 else if c < 27 then 5 else if c < 30 then 6 else if c < 33 then 7 else if c < 34 then 99 else if c < 40 then 2 else if c < 44 then 3 else if c < 46 then 0 else if c = 46 then 10 + n else if c = 47 then 99 else if c < 51 then 8 + n else if c < 53 then 99 else if c = 53 then 10 + i else if c = 54 then 10 + i / 240 else if c = 55 then (if i < 2 then 12 + i else 99) else if c = 56 then (if i < 480 then 12 + i / 240 else 99) else if c = 57 then 8 + i else if c = 58 then 8 + i / 60 else if c < 63 then 2 else if c = 63 then 3 else if c = 64 then 4 else if c = 65 then 5 else if c = 66 then 6 else if c = 67 then 7 else if c < 70 then 4 else if c = 70 then 1 else if c < 73 then 0 else 99
def Ch (k : Nat) (S S' : St) : Prop := (∀ c n j, ownI c n j ≠ k → ownI c n j ≠ 99 → gI S' c n j = gI S c n j) ∧ ∀ c n j, ownA c n j ≠ k → ownA c n j ≠ 99 → gA S' c n j = gA S c n j
theorem Ch.rf (k : Nat) (S : St) : Ch k S S := ⟨fun _ _ _ _ _ => rfl, fun _ _ _ _ _ => rfl⟩
theorem Ch.trans {k : Nat} {S S1 S2 : St} (h : Ch k S S1) (h2 : Ch k S1 S2) : Ch k S S2 := ⟨fun c n j a b => (h2.1 c n j a b).trans (h.1 c n j a b), fun c n j a b => (h2.2 c n j a b).trans (h.2 c n j a b)⟩
theorem Ch.up {k : Nat} {S S1 : St} (h : Ch 99 S S1) : Ch k S S1 := ⟨fun c n j _ b => h.1 c n j b b, fun c n j _ b => h.2 c n j b b⟩
theorem Ch.pI {k : Nat} {S S1 : St} (h : Ch k S S1) {c n j : Nat} (v : Int32) (ho : ownI c n j = k ∨ ownI c n j = 99) : Ch k S (pI S1 c n j v) := by
  refine ⟨fun c' n' j' a b => ?_, fun c' n' j' a b => h.2 c' n' j' a b⟩
  rw [gI_pI]
  by_cases hq : c' = c ∧ n' = n ∧ j' = j
  · obtain ⟨rfl, rfl, rfl⟩ := hq
    rcases ho with ho | ho
    · exact absurd ho a
    · exact absurd ho b
  · rw [if_neg hq]; exact h.1 c' n' j' a b
theorem Ch.pA {k : Nat} {S S1 : St} (h : Ch k S S1) {c n j : Nat} (v : Int32) (ho : ownA c n j = k ∨ ownA c n j = 99) : Ch k S (pA S1 c n j v) := by
  refine ⟨fun c' n' j' a b => h.1 c' n' j' a b, fun c' n' j' a b => ?_⟩
  rw [gA_pA]
  by_cases hq : c' = c ∧ n' = n ∧ j' = j
  · obtain ⟨rfl, rfl, rfl⟩ := hq
    rcases ho with ho | ho
    · exact absurd ho a
    · exact absurd ho b
  · rw [if_neg hq]; exact h.2 c' n' j' a b
theorem Ch.pB {k : Nat} {S S1 : St} (h : Ch k S S1) (c n j : Nat) (v : Int64) : Ch k S (pB S1 c n j v) := h
theorem Ch.pJ {k : Nat} {S S1 : St} (h : Ch k S S1) (c n j : Nat) (v : Int64) : Ch k S (pJ S1 c n j v) := h
theorem Ch.I {k : Nat} {S S' : St} (h : Ch k S S') {c n j : Nat} (o : Nat) (ho : ownI c n j = o) (hk : k ≠ o) (h9 : o ≠ 99) : gI S' c n j = gI S c n j := h.1 c n j (by rw [ho]; exact Ne.symm hk) (by rw [ho]; exact h9)
theorem Ch.A {k : Nat} {S S' : St} (h : Ch k S S') {c n j : Nat} (o : Nat) (ho : ownA c n j = o) (hk : k ≠ o) (h9 : o ≠ 99) : gA S' c n j = gA S c n j := h.2 c n j (by rw [ho]; exact Ne.symm hk) (by rw [ho]; exact h9)
/-- a count goes up by one: tables of numbers -/
def upT (A : Nat → Nat → Nat) (f i v : Nat) : Nat → Nat → Nat := fun f' i' => if f' = f ∧ i' = i then v else A f' i'
theorem upT_s (A : Nat → Nat → Nat) (f i v : Nat) : upT A f i v f i = v := by simp [upT]
theorem upT_f (A : Nat → Nat → Nat) {f i v f' i' : Nat} (h : f' ≠ f) : upT A f i v f' i' = A f' i' := by simp [upT, h]
theorem upT_i (A : Nat → Nat → Nat) {f i v f' i' : Nat} (h : i' ≠ i) : upT A f i v f' i' = A f' i' := by simp [upT, h]
/-! ARGUMENTS: both tests of a number answer alike -/
theorem ifz {α : Type} (P : Prop) [Decidable P] (x y : α) : (if (if P then (1 : Int32) else 0) = 0 then x else y) = if P then y else x := by
  by_cases h : P
  · rw [if_pos h, if_pos h, if_neg (by decide)]
  · rw [if_neg h, if_neg h, if_pos rfl]
theorem ar_w (p a b : Int32) (a' b' : Int64) (ha : a'.toInt = a.toInt) (hb : b'.toInt = b.toInt) : ((∀ S, fX11_within S p a b = some 0) ∧ ∀ S, fX12_in S p.toInt64 a' b' = some 0) ∨ ((a.toInt ≤ p.toInt ∧ p.toInt ≤ b.toInt) ∧ (∀ S, fX11_within S p a b = some 1) ∧ ∀ S, fX12_in S p.toInt64 a' b' = some 1) := by
  by_cases h : a.toInt ≤ p.toInt ∧ p.toInt ≤ b.toInt
  · right
    refine ⟨h, fun S => by rw [within_s, if_pos h], fun S => ?_⟩
    rw [in_s, i64_toInt, ha, hb, if_pos h]
  · left
    refine ⟨fun S => by rw [within_s, if_neg h], fun S => ?_⟩
    rw [in_s, i64_toInt, ha, hb, if_neg h]
/-- from a low end a > -1 or = -1 .. : a number p = nI k - 0 -/
theorem ar_n (p : Int32) (lo hi : Nat) (hh : hi < 2147483648) (a b : Int32) (a' b' : Int64) (ea : a.toInt = lo) (eb : b.toInt = hi) (ha : a'.toInt = a.toInt) (hb : b'.toInt = b.toInt) : ((∀ S, fX11_within S p a b = some 0) ∧ ∀ S, fX12_in S p.toInt64 a' b' = some 0) ∨ ∃ k : Nat, p = nI k ∧ lo ≤ k ∧ k ≤ hi ∧ (∀ S, fX11_within S (nI k) a b = some 1) ∧ ∀ S, fX12_in S (nI k).toInt64 a' b' = some 1 := by
  rcases ar_w p a b a' b' ha hb with h | ⟨h, h1, h2⟩
  · exact Or.inl h
  · right
    obtain ⟨k, hk, e, hk2⟩ := rng_nI (p := p) (n := hi) (by omega) (by omega)
    subst e
    refine ⟨k, rfl, ?_, hk, h1, h2⟩
    rw [ea, t_nI hk2] at h
    omega
/-! SETTLEMENTS: Z 0 sums, Z 1 ratios -/
def IvS (S : St) (n : Nat) (Z : Nat → Nat → Nat) : Prop := n ≤ 8 ∧ gI S 7 0 2 = nI n ∧ gI S 11 0 25 = nI n ∧ ∀ i, i < n → gA S 44 0 i = nI (Z 0 i) ∧ gA S 45 0 i = nI (Z 1 i) ∧ gA S 71 0 i = nI (Z 0 i) ∧ gA S 72 0 i = nI (Z 1 i)
theorem IvS.ch {k n : Nat} {S S' : St} {Z : Nat → Nat → Nat} (h : IvS S n Z) (hc : Ch k S S') (hk : k ≠ 0) : IvS S' n Z := by
  obtain ⟨h0, h1, h2, h3⟩ := h
  refine ⟨h0, (hc.I 0 rfl hk (by decide)).trans h1, (hc.I 0 rfl hk (by decide)).trans h2, fun i hi => ?_⟩
  obtain ⟨q1, q2, q3, q4⟩ := h3 i hi
  exact ⟨(hc.A 0 rfl hk (by decide)).trans q1, (hc.A 0 rfl hk (by decide)).trans q2, (hc.A 0 rfl hk (by decide)).trans q3, (hc.A 0 rfl hk (by decide)).trans q4⟩
