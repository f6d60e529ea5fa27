theorem shl1F : ∀ i : Fin 31, (1 : Int32) <<< (nI i.val &&& 31) = nI (2 ^ i.val) := by decide
theorem shl1 {i : Nat} (h : i < 31) : (1 : Int32) <<< (nI i &&& 31) = nI (2 ^ i) := shl1F ⟨i, h⟩
theorem or_lt {a b i : Nat} (ha : a < 2 ^ i) (hb : b < 2 ^ i) : a ||| b < 2 ^ i := Nat.or_lt_two_pow ha hb
/-- the founded ones, as a set of numbers -/
theorem L_founded {S : St} {n np : Nat} {C : Nat → Nat → Nat} (h : IvC S n np C) (F : Nat) (x : Int32) : ∀ m i s, i ≤ n → n < i + m → s < 2 ^ i → (∀ j, j < i → s.testBit j = decide (nI (C 4 j) &&& (x ^^^ -1) = 0)) → ∃ r : Nat, r < 2 ^ n ∧ (∀ j, j < n → r.testBit j = decide (nI (C 4 j) &&& (x ^^^ -1) = 0)) ∧ fX0_foundedBy_L4 F S x m (nI s) (nI i) = some (nI r) ∧ fX12_foundedBy_L4 F S x m (nI s) (nI i) = some (nI r) := by
  obtain ⟨h0, h1, h2, h3⟩ := h
  intro m
  induction m with
  | zero => intro i s q1 q2; omega
  | succ m ih =>
    intro i s q1 q2 q3 q4
    simp only [fX0_foundedBy_L4, fX12_foundedBy_L4, fX0_foundedBy_b4, fX12_foundedBy_b4, h1, h2]
    by_cases e : i = n
    · subst e
      have hle := c_le (Nat.le_refl i) (show i < 2147483648 by omega)
      exact ⟨s, q3, q4, by rw [if_pos hle], by rw [if_pos hle]⟩
    · have hle := c_nle (show i < n by omega) (show n < 2147483648 by omega)
      have hq := h3 i (by omega)
      have a1 := hq.2.2.2.2.1
      have a2 := hq.2.2.2.2.2.2.2.2.2.2.1
      have e6 : (6 : Int32) * nI i = nI (6 * i) := pk_mul 6 i
      have e7 : nI (6 * i) + 4 = nI (6 * i + 4) := nI_add _ 4
      have i1 := ix_nI (show i < 9 by omega) (by decide)
      have i2 := ix_nI (show 6 * i + 4 < 54 by omega) (by decide)
      simp only [if_neg hle, e6, e7, i1, i2, gd_t, cl (show i < 2147483648 by omega), cl (show 6 * i + 4 < 2147483648 by omega), a1, a2, bnd_e, nI_a1, Int32.or_zero, shl1 (show i < 31 by omega), fa_or]
      have hs2 : s ||| 2 ^ i < 2 ^ (i + 1) := Nat.or_lt_two_pow (Nat.lt_of_lt_of_le q3 (Nat.pow_le_pow_right (by decide) (Nat.le_succ i))) (Nat.pow_lt_pow_right (by decide) (Nat.lt_succ_self i))
      by_cases ec : nI (C 4 i) &&& (x ^^^ -1) = 0
      · simp only [if_pos ec]
        refine ih (i + 1) (s ||| 2 ^ i) (by omega) (by omega) hs2 (fun j hj => ?_)
        rw [Nat.testBit_or, Nat.testBit_two_pow]
        by_cases ej : j = i
        · subst ej; rw [decide_eq_true ec]; simp
        · rw [q4 j (by omega)]
          have : ¬ i = j := fun q => ej q.symm
          simp [this]
      · simp only [if_neg ec]
        refine ih (i + 1) s (by omega) (by omega) (Nat.lt_of_lt_of_le q3 (Nat.pow_le_pow_right (by decide) (Nat.le_succ i))) (fun j hj => ?_)
        by_cases ej : j = i
        · subst ej
          rw [Nat.testBit_lt_two_pow q3, decide_eq_false ec]
        · exact q4 j (by omega)
theorem Q_foundedBy {S : St} {n np : Nat} {C : Nat → Nat → Nat} (h : IvC S n np C) (F : Nat) (hF : 1000 ≤ F) (x : Int32) : ∃ r : Nat, r < 2 ^ n ∧ (∀ j, j < n → r.testBit j = decide (nI (C 4 j) &&& (x ^^^ -1) = 0)) ∧ fX0_foundedBy F S x = some (nI r) ∧ fX12_foundedBy F S x = some (nI r) := by
  obtain ⟨r, r1, r2, r3, r4⟩ := L_founded h F x F 0 0 (by omega) (by have := h.1; omega) (by decide) (fun j hj => by omega)
  exact ⟨r, r1, r2, r3, r4⟩
theorem Q_founded {S : St} {n np : Nat} {C : Nat → Nat → Nat} (h : IvC S n np C) (F : Nat) (hF : 1000 ≤ F) (p1 : Int32) : ∃ r, fX11_founded F S p1 = some r ∧ fX12_founded F S p1 = some r := by
  have hne : ¬ (1 : Int32) = 0 := by decide
  rcases a_facts p1 with ⟨c1, m1⟩ | ⟨a1, rfl, u1, c1, m1⟩
  · exact ⟨-1, by simp only [fX11_founded, c1, cal_s]; rfl, by simp only [fX12_founded, m1, cal_s]; rfl⟩
  obtain ⟨r, -, -, r3, r4⟩ := Q_foundedBy h F hF (nI a1)
  exact ⟨nI r, by simp only [fX11_founded, c1, cal_s, if_neg hne, r3], by simp only [fX12_founded, m1, cal_s, if_neg hne, r4]⟩
theorem fl_bit : ∀ a : Fin 256, ∀ f : Fin 8, (nI a.val &&& (((255 : Int32) - ((1 : Int32) <<< (nI f.val &&& 31))) ^^^ -1) = 0) = (hb (nI a.val) (nI f.val) = 0) := by
  have h : ∀ a : Fin 256, ∀ f : Fin 8, (nI a.val &&& (((255 : Int32) - ((1 : Int32) <<< (nI f.val &&& 31))) ^^^ -1) = 0) ↔ (hb (nI a.val) (nI f.val) = 0) := by decide +kernel
  exact fun a f => propext (h a f)
theorem dm_or (x a b : Int32) : (x &&& (a ^^^ -1)) &&& (b ^^^ -1) = x &&& ((a ||| b) ^^^ -1) := by
  apply Int32.toBitVec_inj.mp
  simp only [Int32.toBitVec_and, Int32.toBitVec_xor, Int32.toBitVec_or]
  apply BitVec.eq_of_getLsbD_eq
  intro i hi
  have hm : (-1 : Int32).toBitVec = BitVec.allOnes 32 := by decide
  have hm2 : (BitVec.allOnes 32).getLsbD i = true := by rw [BitVec.getLsbD_allOnes]; simpa using hi
  simp only [BitVec.getLsbD_and, BitVec.getLsbD_xor, BitVec.getLsbD_or, hm, hm2]
  cases x.toBitVec.getLsbD i <;> cases a.toBitVec.getLsbD i <;> cases b.toBitVec.getLsbD i <;> rfl
theorem L_falls {S : St} {n np : Nat} {C : Nat → Nat → Nat} (h : IvC S n np C) (F f : Nat) (hf : f < 8) (x0 : Int32) : ∀ m i (q : Int32), i ≤ n → n < i + m → ∃ q', fX0_foundedBy_L4 F S ((255 : Int32) - ((1 : Int32) <<< (nI f &&& 31))) m q (nI i) = some q' ∧ fX12_falls_L35 F S (nI f) m (x0 &&& (q ^^^ -1)) (nI i) = some (x0 &&& (q' ^^^ -1)) := by
  obtain ⟨h0, h1, h2, h3⟩ := h
  intro m
  induction m with
  | zero => intro i s q1 q2; omega
  | succ m ih =>
    intro i s q1 q2
    simp only [fX0_foundedBy_L4, fX12_falls_L35, fX0_foundedBy_b4, fX12_falls_b35, h1, h2]
    by_cases e : i = n
    · subst e
      have hle := c_le (Nat.le_refl i) (show i < 2147483648 by omega)
      exact ⟨s, by rw [if_pos hle], by rw [if_pos hle]⟩
    · have hle := c_nle (show i < n by omega) (show n < 2147483648 by omega)
      have hq := h3 i (by omega)
      have a1 := hq.2.2.2.2.1
      have a2 := hq.2.2.2.2.2.2.2.2.2.2.1
      have hr : C 4 i < 256 := hq.2.2.2.2.2.2.2.2.2.2.2.2.2.2.2.2.1
      have e6 : (6 : Int32) * nI i = nI (6 * i) := pk_mul 6 i
      have e7 : nI (6 * i) + 4 = nI (6 * i + 4) := nI_add _ 4
      have i1 := ix_nI (show i < 9 by omega) (by decide)
      have i2 := ix_nI (show 6 * i + 4 < 54 by omega) (by decide)
      have hbb := fl_bit ⟨C 4 i, hr⟩ ⟨f, hf⟩
      simp only at hbb
      simp only [if_neg hle, e6, e7, i1, i2, gd_t, cl (show i < 2147483648 by omega), cl (show 6 * i + 4 < 2147483648 by omega), a1, a2, bnd_e, nI_a1, hb_m, cal_s, hbb]
      by_cases ec : hb (nI (C 4 i)) (nI f) = 0
      · simp only [if_pos ec, dm_or]
        exact ih (i + 1) _ (by omega) (by omega)
      · simp only [if_neg ec, Int32.and_neg_one]
        exact ih (i + 1) _ (by omega) (by omega)
theorem Q_falls {S : St} {n np : Nat} {C : Nat → Nat → Nat} (h : IvC S n np C) (F : Nat) (hF : 1000 ≤ F) (p1 p2 : Int32) : ∃ r, fX11_falls F S p1 p2 = some r ∧ fX12_falls F S p1 p2 = some r := by
  have hne : ¬ (1 : Int32) = 0 := by decide
  rcases a_facts p1 with ⟨c1, m1⟩ | ⟨a1, rfl, u1, c1, m1⟩
  · exact ⟨-1, by simp only [fX11_falls, c1, cal_s]; rfl, by simp only [fX12_falls, m1, cal_s]; rfl⟩
  rcases ar_n p2 0 7 (by decide) 0 7 0 7 (by decide) (by decide) (by decide) (by decide) with ⟨c2, m2⟩ | ⟨a2, rfl, -, u2, c2, m2⟩
  · exact ⟨-1, by simp only [fX11_falls, c1, c2, cal_s, if_neg hne]; rfl, by simp only [fX12_falls, m1, m2, cal_s, if_neg hne]; rfl⟩
  obtain ⟨r, -, -, r3, r4⟩ := Q_foundedBy h F hF (nI a1)
  obtain ⟨q, q1, q2⟩ := L_falls h F a2 (by omega) (nI r) F 0 0 (by omega) (by have := h.1; omega)
  have q1 : fX0_foundedBy F S ((255 : Int32) - ((1 : Int32) <<< (nI a2 &&& 31))) = some q := q1
  have q2 : fX12_falls_L35 F S (nI a2) F (nI r &&& (0 ^^^ -1)) 0 = some (nI r &&& (q ^^^ -1)) := q2
  rw [show (0 : Int32) ^^^ -1 = -1 by decide, Int32.and_neg_one] at q2
  exact ⟨nI r &&& (q ^^^ -1), by simp only [fX11_falls, c1, c2, cal_s, if_neg hne, r3, q1], by simp only [fX12_falls, m1, m2, cal_s, if_neg hne, r4, q2]⟩
