/-! THE MODULES' INVARIANTS: both sides hold the same tables of numbers -/
/-- CLAIMS: 0 kin 1 weight 2 elder 3 time 4 needed 5 asked -/
def IvC (S : St) (n : Nat) (np : Nat) (C : Nat → Nat → Nat) : Prop := n ≤ 9 ∧ gI S 0 0 6 = nI n ∧ gI S 11 0 23 = nI n ∧ ∀ i, i < n → gA S 12 0 i = nI (C 0 i) ∧ gA S 13 0 i = nI (C 1 i) ∧ gA S 14 0 i = nI (C 2 i) ∧ gA S 15 0 i = nI (C 3 i) ∧ gA S 16 0 i = nI (C 4 i) ∧ gA S 17 0 i = nI (C 5 i) ∧ gA S 70 0 (6 * i + 0) = nI (C 0 i) ∧ gA S 70 0 (6 * i + 1) = nI (C 1 i) ∧ gA S 70 0 (6 * i + 2) = nI (C 2 i) ∧ gA S 70 0 (6 * i + 3) = nI (C 3 i) ∧ gA S 70 0 (6 * i + 4) = nI (C 4 i) ∧ gA S 70 0 (6 * i + 5) = nI (C 5 i) ∧ (C 0 i < 10 ∧ (1 ≤ C 1 i ∧ C 1 i ≤ 100) ∧ C 2 i < np ∧ (1 ≤ C 3 i ∧ C 3 i ≤ 5) ∧ C 4 i < 256 ∧ 1 ≤ C 5 i ∧ C 5 i ≤ 1000)
theorem IvC.ch {k : Nat} {S S' : St} {n : Nat} {np : Nat} {C : Nat → Nat → Nat} (h : IvC S n np C) (hc : Ch k S S') (hk : k ≠ 1) : IvC S' n np C := by
  obtain ⟨e0, h0, h1, hi⟩ := h
  refine ⟨e0, (hc.I 1 rfl hk (by decide)).trans h0, (hc.I 1 rfl hk (by decide)).trans h1, fun i hn => ?_⟩
  obtain ⟨q0, q1, q2, q3, q4, q5, q6, q7, q8, q9, q10, q11, x⟩ := hi i hn
  exact ⟨(hc.A 1 rfl hk (by decide)).trans q0, (hc.A 1 rfl hk (by decide)).trans q1, (hc.A 1 rfl hk (by decide)).trans q2, (hc.A 1 rfl hk (by decide)).trans q3, (hc.A 1 rfl hk (by decide)).trans q4, (hc.A 1 rfl hk (by decide)).trans q5, (hc.A 1 rfl hk (by decide)).trans q6, (hc.A 1 rfl hk (by decide)).trans q7, (hc.A 1 rfl hk (by decide)).trans q8, (hc.A 1 rfl hk (by decide)).trans q9, (hc.A 1 rfl hk (by decide)).trans q10, (hc.A 1 rfl hk (by decide)).trans q11, x⟩
/-- PERSONS: 0 born 1 dies 2 parent + 1 3 other parent + 1 4 founds 5 kins -/
def IvP (S : St) (n : Nat) (P : Nat → Nat → Nat) : Prop := n ≤ 30 ∧ gI S 6 0 6 = nI n ∧ gI S 11 0 6 = nI n ∧ ∀ i, i < n → gA S 34 0 i = nI (P 0 i) ∧ gA S 35 0 i = nI (P 1 i) ∧ gA S 36 0 i = nI (P 2 i) - 1 ∧ gA S 37 0 i = nI (P 3 i) - 1 ∧ gA S 38 0 i = nI (P 4 i) ∧ gA S 39 0 i = nI (P 5 i) ∧ gA S 59 0 i = nI (P 0 i) ∧ gA S 61 0 i = nI (P 1 i) ∧ gA S 60 0 (2 * i) = nI (P 2 i) - 1 ∧ gA S 60 0 (2 * i + 1) = nI (P 3 i) - 1 ∧ gA S 62 0 i = nI (P 4 i) ∧ (P 0 i ≤ 200 ∧ (P 1 i ≤ 200 ∨ P 1 i = 1000000) ∧ P 2 i ≤ i ∧ P 3 i ≤ i ∧ P 4 i < 1024 ∧ P 5 i < 1024 ∧ P 5 i = P 4 i ||| (if P 2 i = 0 then 0 else P 5 (P 2 i - 1)) ||| (if P 3 i = 0 then 0 else P 5 (P 3 i - 1)))
theorem IvP.ch {k : Nat} {S S' : St} {n : Nat} {P : Nat → Nat → Nat} (h : IvP S n P) (hc : Ch k S S') (hk : k ≠ 2) : IvP S' n P := by
  obtain ⟨e0, h0, h1, hi⟩ := h
  refine ⟨e0, (hc.I 2 rfl hk (by decide)).trans h0, (hc.I 2 rfl hk (by decide)).trans h1, fun i hn => ?_⟩
  obtain ⟨q0, q1, q2, q3, q4, q5, q6, q7, q8, q9, q10, x⟩ := hi i hn
  exact ⟨(hc.A 2 rfl hk (by decide)).trans q0, (hc.A 2 rfl hk (by decide)).trans q1, (hc.A 2 rfl hk (by decide)).trans q2, (hc.A 2 rfl hk (by decide)).trans q3, (hc.A 2 rfl hk (by decide)).trans q4, (hc.A 2 rfl hk (by decide)).trans q5, (hc.A 2 rfl hk (by decide)).trans q6, (hc.A 2 rfl hk (by decide)).trans q7, (hc.A 2 rfl hk (by decide)).trans q8, (hc.A 2 rfl hk (by decide)).trans q9, (hc.A 2 rfl hk (by decide)).trans q10, x⟩
/-- SAYINGS: 0 by 1 of 2 kin 3 is -/
def IvY (S : St) (n : Nat) (np : Nat) (Y : Nat → Nat → Nat) : Prop := n ≤ 20 ∧ gI S 6 0 11 = nI n ∧ gI S 11 0 11 = nI n ∧ ∀ i, i < n → gA S 40 0 i = nI (Y 0 i) ∧ gA S 41 0 i = nI (Y 1 i) ∧ gA S 42 0 i = nI (Y 2 i) ∧ gA S 43 0 i = nI (Y 3 i) ∧ gA S 63 0 (4 * i + 0) = nI (Y 0 i) ∧ gA S 63 0 (4 * i + 1) = nI (Y 1 i) ∧ gA S 63 0 (4 * i + 2) = nI (Y 2 i) ∧ gA S 63 0 (4 * i + 3) = nI (Y 3 i) ∧ (Y 0 i < np ∧ Y 1 i < np ∧ Y 2 i < 10 ∧ Y 3 i < 2)
theorem IvY.ch {k : Nat} {S S' : St} {n : Nat} {np : Nat} {Y : Nat → Nat → Nat} (h : IvY S n np Y) (hc : Ch k S S') (hk : k ≠ 3) : IvY S' n np Y := by
  obtain ⟨e0, h0, h1, hi⟩ := h
  refine ⟨e0, (hc.I 3 rfl hk (by decide)).trans h0, (hc.I 3 rfl hk (by decide)).trans h1, fun i hn => ?_⟩
  obtain ⟨q0, q1, q2, q3, q4, q5, q6, q7, x⟩ := hi i hn
  exact ⟨(hc.A 3 rfl hk (by decide)).trans q0, (hc.A 3 rfl hk (by decide)).trans q1, (hc.A 3 rfl hk (by decide)).trans q2, (hc.A 3 rfl hk (by decide)).trans q3, (hc.A 3 rfl hk (by decide)).trans q4, (hc.A 3 rfl hk (by decide)).trans q5, (hc.A 3 rfl hk (by decide)).trans q6, (hc.A 3 rfl hk (by decide)).trans q7, x⟩
/-- PAPERS and USES: 0 block 1 what 2 value + 1 3 year -/
def IvH (S : St) (n : Nat) (nb : Nat) (H : Nat → Nat → Nat) : Prop := n ≤ 60 ∧ gI S 4 0 8 = nI n ∧ gI S 11 0 15 = nI n ∧ ∀ i, i < n → gA S 23 0 i = nI (H 0 i) ∧ gA S 24 0 i = nI (H 1 i) ∧ gA S 25 0 i = nI (H 2 i) - 1 ∧ gA S 26 0 i = nI (H 3 i) ∧ gA S 65 0 (4 * i) = nI (H 0 i) ∧ gA S 65 0 (4 * i + 1) = nI (H 1 i) ∧ gA S 65 0 (4 * i + 2) = nI (H 2 i) - 1 ∧ gA S 65 0 (4 * i + 3) = nI (H 3 i) ∧ (H 0 i < nb ∧ H 1 i < 2 ∧ (H 1 i = 0 → H 2 i ≤ 10) ∧ (H 1 i = 1 → 1 ≤ H 2 i ∧ H 2 i ≤ 1024) ∧ H 3 i ≤ 200)
theorem IvH.ch {k : Nat} {S S' : St} {n : Nat} {nb : Nat} {H : Nat → Nat → Nat} (h : IvH S n nb H) (hc : Ch k S S') (hk : k ≠ 5) : IvH S' n nb H := by
  obtain ⟨e0, h0, h1, hi⟩ := h
  refine ⟨e0, (hc.I 5 rfl hk (by decide)).trans h0, (hc.I 5 rfl hk (by decide)).trans h1, fun i hn => ?_⟩
  obtain ⟨q0, q1, q2, q3, q4, q5, q6, q7, x⟩ := hi i hn
  exact ⟨(hc.A 5 rfl hk (by decide)).trans q0, (hc.A 5 rfl hk (by decide)).trans q1, (hc.A 5 rfl hk (by decide)).trans q2, (hc.A 5 rfl hk (by decide)).trans q3, (hc.A 5 rfl hk (by decide)).trans q4, (hc.A 5 rfl hk (by decide)).trans q5, (hc.A 5 rfl hk (by decide)).trans q6, (hc.A 5 rfl hk (by decide)).trans q7, x⟩
/-- DEEDS: 0 block 1 kin 2 year -/
def IvD (S : St) (n : Nat) (nb : Nat) (D : Nat → Nat → Nat) : Prop := n ≤ 20 ∧ gI S 4 0 12 = nI n ∧ gI S 11 0 17 = nI n ∧ ∀ i, i < n → gA S 27 0 i = nI (D 0 i) ∧ gA S 28 0 i = nI (D 1 i) ∧ gA S 29 0 i = nI (D 2 i) ∧ gA S 66 0 (4 * i) = nI (D 0 i) ∧ gA S 66 0 (4 * i + 1) = nI (D 1 i) ∧ gA S 66 0 (4 * i + 3) = nI (D 2 i) ∧ (D 0 i < nb ∧ D 1 i < 10 ∧ D 2 i ≤ 200)
theorem IvD.ch {k : Nat} {S S' : St} {n : Nat} {nb : Nat} {D : Nat → Nat → Nat} (h : IvD S n nb D) (hc : Ch k S S') (hk : k ≠ 6) : IvD S' n nb D := by
  obtain ⟨e0, h0, h1, hi⟩ := h
  refine ⟨e0, (hc.I 6 rfl hk (by decide)).trans h0, (hc.I 6 rfl hk (by decide)).trans h1, fun i hn => ?_⟩
  obtain ⟨q0, q1, q2, q3, q4, q5, x⟩ := hi i hn
  exact ⟨(hc.A 6 rfl hk (by decide)).trans q0, (hc.A 6 rfl hk (by decide)).trans q1, (hc.A 6 rfl hk (by decide)).trans q2, (hc.A 6 rfl hk (by decide)).trans q3, (hc.A 6 rfl hk (by decide)).trans q4, (hc.A 6 rfl hk (by decide)).trans q5, x⟩
/-- TAKINGS: 0 block 1 kin 2 year -/
def IvK (S : St) (n : Nat) (nb : Nat) (K : Nat → Nat → Nat) : Prop := n ≤ 12 ∧ gI S 4 0 16 = nI n ∧ gI S 11 0 19 = nI n ∧ ∀ i, i < n → gA S 30 0 i = nI (K 0 i) ∧ gA S 31 0 i = nI (K 1 i) ∧ gA S 32 0 i = nI (K 2 i) ∧ gA S 67 0 (3 * i) = nI (K 0 i) ∧ gA S 67 0 (3 * i + 1) = nI (K 1 i) ∧ gA S 67 0 (3 * i + 2) = nI (K 2 i) ∧ (K 0 i < nb ∧ K 1 i < 10 ∧ K 2 i ≤ 200)
theorem IvK.ch {k : Nat} {S S' : St} {n : Nat} {nb : Nat} {K : Nat → Nat → Nat} (h : IvK S n nb K) (hc : Ch k S S') (hk : k ≠ 7) : IvK S' n nb K := by
  obtain ⟨e0, h0, h1, hi⟩ := h
  refine ⟨e0, (hc.I 7 rfl hk (by decide)).trans h0, (hc.I 7 rfl hk (by decide)).trans h1, fun i hn => ?_⟩
  obtain ⟨q0, q1, q2, q3, q4, q5, x⟩ := hi i hn
  exact ⟨(hc.A 7 rfl hk (by decide)).trans q0, (hc.A 7 rfl hk (by decide)).trans q1, (hc.A 7 rfl hk (by decide)).trans q2, (hc.A 7 rfl hk (by decide)).trans q3, (hc.A 7 rfl hk (by decide)).trans q4, (hc.A 7 rfl hk (by decide)).trans q5, x⟩
/-- BOOKS by book(): 0 word 1 year 2 verbs -/
def IvW (S : St) (t : Nat) (n : Nat) (V : Nat → Nat → Nat) : Prop := n ≤ 20 ∧ gI S 9 t 3 = nI n ∧ gA S 57 0 t = nI n ∧ ∀ i, i < n → gA S 48 t i = nI (V 0 i) ∧ gA S 49 t i = nI (V 1 i) ∧ gA S 50 t i = nI (V 2 i) ∧ gA S 58 0 (60 * t + 3 * i) = nI (V 0 i) ∧ gA S 58 0 (60 * t + 3 * i + 1) = nI (V 1 i) ∧ gA S 58 0 (60 * t + 3 * i + 2) = nI (V 2 i) ∧ (V 0 i < 8 ∧ V 1 i ≤ 200 ∧ V 2 i < 64)
theorem IvW.ch {k : Nat} {S S' : St} {t : Nat} {n : Nat} {V : Nat → Nat → Nat} (h : IvW S t n V) (hc : Ch k S S') (hk : k ≠ 8 + t) (ht : t < 2) : IvW S' t n V := by
  obtain ⟨e0, h0, h1, hi⟩ := h
  refine ⟨e0, (hc.I (8 + t) (by rfl) hk (by omega)).trans h0, (hc.A (8 + t) (by rfl) hk (by omega)).trans h1, fun i hn => ?_⟩
  obtain ⟨q0, q1, q2, q3, q4, q5, x⟩ := hi i hn
  exact ⟨(hc.A (8 + t) (by rfl) hk (by omega)).trans q0, (hc.A (8 + t) (by rfl) hk (by omega)).trans q1, (hc.A (8 + t) (by rfl) hk (by omega)).trans q2, (hc.A (8 + t) (by unfold ownA; simp; omega) hk (by omega)).trans q3, (hc.A (8 + t) (by unfold ownA; simp; omega) hk (by omega)).trans q4, (hc.A (8 + t) (by unfold ownA; simp; omega) hk (by omega)).trans q5, x⟩
/-- TEXTS: bytes -/
def IvX (S : St) (t : Nat) (n : Nat) (B : Nat → Nat) : Prop := n ≤ 240 ∧ gI S 8 t 1 = nI n ∧ gA S 53 0 t = nI n ∧ ∀ i, i < n → gA S 46 t i = (nI (B i)).toInt8.toInt32 ∧ gA S 54 0 (240 * t + i) = nI (B i) ∧ B i < 256
theorem IvX.ch {k : Nat} {S S' : St} {t : Nat} {n : Nat} {B : Nat → Nat} (h : IvX S t n B) (hc : Ch k S S') (hk : k ≠ 10 + t) (ht : t < 2) : IvX S' t n B := by
  obtain ⟨e0, h0, h1, hi⟩ := h
  refine ⟨e0, (hc.I (10 + t) (by rfl) hk (by omega)).trans h0, (hc.A (10 + t) (by rfl) hk (by omega)).trans h1, fun i hn => ?_⟩
  obtain ⟨q0, q1, x⟩ := hi i hn
  exact ⟨(hc.A (10 + t) (by rfl) hk (by omega)).trans q0, (hc.A (10 + t) (by unfold ownA; simp; omega) hk (by omega)).trans q1, x⟩
theorem own_it {t i k : Nat} (ht : t < 2) (hi : i < 34) : ownI 3 (34 * t + i) k = 12 + t := by
  have h1 : 34 * t + i < 68 := by omega
  have h2 : (34 * t + i) / 34 = t := by omega
  simp [ownI, h1, h2]
theorem own_mi {t i : Nat} (ht : t < 2) (hi : i < 240) : ownA 56 0 (240 * t + i) = 12 + t := by
  have h1 : 240 * t + i < 480 := by omega
  have h2 : (240 * t + i) / 240 = t := by omega
  simp [ownA, h1, h2]
theorem own_mm {t : Nat} (ht : t < 2) : ownA 55 0 t = 12 + t := by simp [ownA, ht]
/-- ITEMS in force: 0 letter 1 word, of w: 2 year 3 verbs; else 2 thing 3 from 4 to 5 facts -/
def IvI (S : St) (t : Nat) (n : Nat) (E : Nat → Nat → Nat) : Prop := n ≤ 34 ∧ gI S 9 t 6 = nI n ∧ gA S 55 0 t = nI n ∧ ∀ i, i < n → gI S 3 (34 * t + i) 0 = nI (E 0 i) ∧ gI S 3 (34 * t + i) 1 = nI (E 1 i) ∧ gI S 3 (34 * t + i) 2 = nI (if E 0 i = 119 then 0 else E 2 i) ∧ gI S 3 (34 * t + i) 3 = nI (if E 0 i = 119 then E 2 i else E 3 i) ∧ gI S 3 (34 * t + i) 4 = nI (if E 0 i = 119 then 200 else E 4 i) ∧ gI S 3 (34 * t + i) 5 = nI (if E 0 i = 119 then E 3 i else E 5 i) ∧ gA S 56 0 (240 * t + 6 * i) = nI (E 0 i) ∧ gA S 56 0 (240 * t + 6 * i + 1) = nI (E 1 i) ∧ gA S 56 0 (240 * t + 6 * i + 2) = nI (E 2 i) ∧ gA S 56 0 (240 * t + 6 * i + 3) = nI (E 3 i) ∧ gA S 56 0 (240 * t + 6 * i + 4) = nI (E 4 i) ∧ gA S 56 0 (240 * t + 6 * i + 5) = nI (E 5 i) ∧ ((E 0 i = 119 ∧ E 1 i < 8 ∧ E 2 i ≤ 200 ∧ E 3 i < 64) ∨ ((E 0 i = 108 ∨ E 0 i = 98) ∧ E 1 i < 8 ∧ E 2 i < 6 ∧ E 3 i ≤ E 4 i ∧ E 4 i ≤ 200 ∧ E 5 i < 256))
theorem IvI.ch {k : Nat} {S S' : St} {t : Nat} {n : Nat} {E : Nat → Nat → Nat} (h : IvI S t n E) (hc : Ch k S S') (hk : k ≠ 12 + t) (ht : t < 2) : IvI S' t n E := by
  obtain ⟨e0, h0, h1, hi⟩ := h
  refine ⟨e0, (hc.I (12 + t) (by rfl) hk (by omega)).trans h0, (hc.A (12 + t) (own_mm ht) hk (by omega)).trans h1, fun i hn => ?_⟩
  obtain ⟨q0, q1, q2, q3, q4, q5, q6, q7, q8, q9, q10, q11, x⟩ := hi i hn
  exact ⟨(hc.I (12 + t) (own_it ht (by omega)) hk (by omega)).trans q0, (hc.I (12 + t) (own_it ht (by omega)) hk (by omega)).trans q1, (hc.I (12 + t) (own_it ht (by omega)) hk (by omega)).trans q2, (hc.I (12 + t) (own_it ht (by omega)) hk (by omega)).trans q3, (hc.I (12 + t) (own_it ht (by omega)) hk (by omega)).trans q4, (hc.I (12 + t) (own_it ht (by omega)) hk (by omega)).trans q5, (hc.A (12 + t) (own_mi ht (by omega)) hk (by omega)).trans q6, (hc.A (12 + t) (by rw [show ∀ a b c : Nat, a + b + c = a + (b + c) from Nat.add_assoc]; exact own_mi ht (by omega)) hk (by omega)).trans q7, (hc.A (12 + t) (by rw [show ∀ a b c : Nat, a + b + c = a + (b + c) from Nat.add_assoc]; exact own_mi ht (by omega)) hk (by omega)).trans q8, (hc.A (12 + t) (by rw [show ∀ a b c : Nat, a + b + c = a + (b + c) from Nat.add_assoc]; exact own_mi ht (by omega)) hk (by omega)).trans q9, (hc.A (12 + t) (by rw [show ∀ a b c : Nat, a + b + c = a + (b + c) from Nat.add_assoc]; exact own_mi ht (by omega)) hk (by omega)).trans q10, (hc.A (12 + t) (by rw [show ∀ a b c : Nat, a + b + c = a + (b + c) from Nat.add_assoc]; exact own_mi ht (by omega)) hk (by omega)).trans q11, x⟩
/-- BLOCKS: 0 worth 1 year of the shares + 1 2 their kin -/
def IvB (S : St) (n : Nat) (B : Nat → Nat → Nat) : Prop := n ≤ 12 ∧ gI S 4 0 3 = nI n ∧ gI S 11 0 13 = nI n ∧ (∀ i, i < n → gA S 20 0 i = nI (B 0 i) ∧ gA S 64 0 i = nI (B 0 i) ∧ gA S 22 0 i = nI (B 1 i) - 1 ∧ (B 1 i ≠ 0 → gA S 21 0 i = nI (B 2 i) ∧ gA S 68 0 i = nI (B 2 i) ∧ gA S 69 0 i = nI (B 1 i) - 1) ∧ (B 1 i = 0 → gA S 68 0 i = -1) ∧ B 0 i ≤ 1000000 ∧ B 1 i ≤ 201 ∧ B 2 i < 10) ∧ ∀ i, n ≤ i → i < 12 → gA S 68 0 i = -1
theorem IvB.ch {k : Nat} {S S' : St} {n : Nat} {B : Nat → Nat → Nat} (h : IvB S n B) (hc : Ch k S S') (hk : k ≠ 4) : IvB S' n B := by
  obtain ⟨h0, h1, h2, h3, h4⟩ := h
  refine ⟨h0, (hc.I 4 rfl hk (by decide)).trans h1, (hc.I 4 rfl hk (by decide)).trans h2, fun i hi => ?_, fun i hi hj => (hc.A 4 rfl hk (by decide)).trans (h4 i hi hj)⟩
  obtain ⟨q0, q1, q2, q3, q4, x⟩ := h3 i hi
  exact ⟨(hc.A 4 rfl hk (by decide)).trans q0, (hc.A 4 rfl hk (by decide)).trans q1, (hc.A 4 rfl hk (by decide)).trans q2, fun hb => ⟨(hc.A 4 rfl hk (by decide)).trans (q3 hb).1, (hc.A 4 rfl hk (by decide)).trans (q3 hb).2.1, (hc.A 4 rfl hk (by decide)).trans (q3 hb).2.2⟩, fun hb => (hc.A 4 rfl hk (by decide)).trans (q4 hb), x⟩
