theorem Q_settlement {S : St} {n : Nat} {Z : Nat → Nat → Nat} (h : IvS S n Z) (p q : Int32) :
    ∃ (r : Int32) (S1 S2 : St) (n2 : Nat) (Z2 : Nat → Nat → Nat), fX11_settlement S p q = some (r, S1) ∧ fX12_settlement S1 p q = some (r, S2) ∧ IvS S2 n2 Z2 ∧ Ch 0 S S2 ∧ gC S1 = gC S ∧ gC S2 = gC S := by
  have bad : ∀ {S1 : St}, fX11_settlement S p q = some (-1, S) → fX12_settlement S p q = some (-1, S) → ∃ (r : Int32) (S1 S2 : St) (n2 : Nat) (Z2 : Nat → Nat → Nat), fX11_settlement S p q = some (r, S1) ∧ fX12_settlement S1 p q = some (r, S2) ∧ IvS S2 n2 Z2 ∧ Ch 0 S S2 ∧ gC S1 = gC S ∧ gC S2 = gC S := fun a b => ⟨-1, S, S, n, Z, a, b, h, Ch.rf 0 S, rfl, rfl⟩
  rcases ar_n p 1 100000 (by decide) 1 100000 1 100000 (by decide) (by decide) (by decide) (by decide) with ⟨c1, m1⟩ | ⟨a, rfl, ha1, ha2, c1, m1⟩
  · refine bad (S1 := S) ?_ ?_
    · simp only [fX11_settlement, c1, cal_s]; rfl
    · simp only [fX12_settlement, m1, cal_s]; rfl
  rcases ar_n q 0 50 (by decide) 0 50 0 50 (by decide) (by decide) (by decide) (by decide) with ⟨c2, m2⟩ | ⟨b, rfl, -, hb2, c2, m2⟩
  · refine bad (S1 := S) ?_ ?_
    · simp only [fX11_settlement, c1, c2, cal_s]; rfl
    · simp only [fX12_settlement, m1, m2, cal_s]; rfl
  have hne : ¬ (1 : Int32) = 0 := by decide
  obtain ⟨h0, h1, h2, h3⟩ := h
  by_cases hn8 : n = 8
  · subst hn8
    refine ⟨-3, S, S, 8, Z, ?_, ?_, ⟨h0, h1, h2, h3⟩, Ch.rf 0 S, rfl, rfl⟩
    · simp only [fX11_settlement, c1, c2, cal_s, if_neg hne, fX8_add, h1]; rfl
    · simp only [fX12_settlement, m1, m2, cal_s, if_neg hne, h2]; rfl
  · have hi := ix_nI (show n < 8 by omega) (by decide)
    have hcl := cl (show n < 2147483648 by omega)
    have hlt : nI n < (8 : Int32) := c_lt (b := 8) (by omega) (by decide)
    have hn8' : ¬ nI n = (8 : Int32) := c_ne (b := 8) (by omega) (by omega) (by decide)
    refine ⟨nI n, pI (pA (pA S 44 0 n (nI a)) 45 0 n (nI b)) 7 0 2 (nI (n + 1)), pI (pA (pA (pI (pA (pA S 44 0 n (nI a)) 45 0 n (nI b)) 7 0 2 (nI (n + 1))) 71 0 n (nI a)) 72 0 n (nI b)) 11 0 25 (nI (n + 1)), n + 1, upT (upT Z 0 n a) 1 n b, ?_, ?_, ?_, ?_, rfl, rfl⟩
    · simp only [fX11_settlement, c1, c2, cal_s, if_neg hne, fX8_add, h1, if_pos hlt, hi, gd_t, bnd_e, gI_pA, hcl, gI_pI, and_self, if_true, nI_a1, nI_pred]
    · simp only [fX12_settlement, m1, m2, cal_s, if_neg hne, gI_pA, gI_pI, h2, if_neg hn8', hi, gd_t, bnd_e, hcl, and_self, if_true, nI_a1, nI_pred, show ¬ ((11 : Nat) = 7) by decide, false_and, if_false]
    · refine ⟨by omega, by simp [gI_pI, gI_pA], by simp [gI_pI], fun i hin => ?_⟩
      simp only [gA_pI, gA_pA]
      by_cases e : i = n
      · subst e; simp [upT]
      · obtain ⟨q1, q2, q3, q4⟩ := h3 i (by omega)
        simp [upT, e, q1, q2, q3, q4]
    · exact ((((((Ch.rf 0 S).pA (c := 44) (n := 0) (j := n) _ (Or.inl rfl)).pA (c := 45) (n := 0) (j := n) _ (Or.inl rfl)).pI (c := 7) (n := 0) (j := 2) _ (Or.inl rfl)).pA (c := 71) (n := 0) (j := n) _ (Or.inl rfl)).pA (c := 72) (n := 0) (j := n) _ (Or.inl rfl)).pI (c := 11) (n := 0) (j := 25) _ (Or.inl rfl)
/-! TOPPED -/
theorem L_topping {S : St} {n : Nat} {Z : Nat → Nat → Nat} (h : IvS S n Z) (F k : Nat) (hk : k < n) : ∀ m i x, i ≤ n → n < i + m → ∃ r, fX8_toppingOf_L6 F S (nI k) m x (nI i) = some r ∧ fX12_toppedOf_L6 F S (nI k) m x (nI i) = some r := by
  obtain ⟨h0, h1, h2, h3⟩ := h
  intro m
  induction m with
  | zero => intro i x q1 q2; omega
  | succ m ih =>
    intro i x q1 q2
    simp only [fX8_toppingOf_L6, fX12_toppedOf_L6, fX8_toppingOf_b6, fX12_toppedOf_b6, h1, h2]
    by_cases e : i = n
    · subst e
      have := c_le (Nat.le_refl i) (show i < 2147483648 by omega)
      exact ⟨x, by rw [if_pos this], by rw [if_pos this]⟩
    · have hle := c_nle (show i < n by omega) (by omega)
      have hi := ix_nI (show i < 8 by omega) (by decide)
      have hi2 := ix_nI (show k < 8 by omega) (by decide)
      have hcl := cl (show i < 2147483648 by omega)
      have hcl2 := cl (show k < 2147483648 by omega)
      obtain ⟨a1, a2, a3, a4⟩ := h3 i (by omega)
      obtain ⟨b1, b2, b3, b4⟩ := h3 k hk
      have hz : (!(decide ((100 : Int32) = 0))) = true := by decide
      simp only [if_neg hle, hi, hi2, hcl, hcl2, gd_t, hz, bnd_e, a1, a3, b2, b4, nI_a1]
      exact ih (i + 1) _ (by omega) (by omega)
theorem Q_toppingOf {S : St} {n : Nat} {Z : Nat → Nat → Nat} (h : IvS S n Z) (F k : Nat) (hk : k < n) (hF : 1000 ≤ F) : ∃ r, fX8_toppingOf F S (nI k) = some r ∧ fX12_toppedOf F S (nI k) = some r := by
  obtain ⟨r, a, b⟩ := L_topping h F k hk F (k + 1) 0 (by omega) (by have := h.1; omega)
  refine ⟨r, ?_, ?_⟩
  · simp only [fX8_toppingOf, bnd_e, nI_a1]; exact a
  · simp only [fX12_toppedOf, bnd_e, nI_a1]; exact b
theorem L_cost {S : St} {n : Nat} {Z : Nat → Nat → Nat} (h : IvS S n Z) (F : Nat) (hF : 1000 ≤ F) : ∀ m i x, i ≤ n → n < i + m → ∃ r, fX8_costOfAll_L4 F S m x (nI i) = some r ∧ fX12_topped_L34 F S m x (nI i) = some r := by
  intro m
  induction m with
  | zero => intro i x q1 q2; omega
  | succ m ih =>
    intro i x q1 q2
    simp only [fX8_costOfAll_L4, fX12_topped_L34, fX8_costOfAll_b4, fX12_topped_b34, h.2.1, h.2.2.1]
    have h0 := h.1
    by_cases e : i = n
    · subst e
      have := c_le (Nat.le_refl i) (show i < 2147483648 by omega)
      exact ⟨x, by rw [if_pos this], by rw [if_pos this]⟩
    · have hle := c_nle (show i < n by omega) (by omega)
      have hi := ix_nI (show i < 8 by omega) (by decide)
      have hcl := cl (show i < 2147483648 by omega)
      obtain ⟨a1, a2, a3, a4⟩ := h.2.2.2 i (by omega)
      obtain ⟨r, t1, t2⟩ := Q_toppingOf h F i (by omega) hF
      simp only [if_neg hle, hi, hcl, gd_t, bnd_e, a1, a3, t1, t2, cal_s, nI_a1]
      exact ih (i + 1) _ (by omega) (by omega)
theorem Q_topped {S : St} {n : Nat} {Z : Nat → Nat → Nat} (h : IvS S n Z) (F : Nat) (hF : 1000 ≤ F) (p : Int32) : ∃ r, fX11_topped F S p = some r ∧ fX12_topped F S p = some r := by
  have h0 := h.1
  simp only [fX11_topped, fX12_topped, h.2.1, h.2.2.1]
  rcases ar_w p (-1) (nI n - 1) (-1) (nI n - 1).toInt64 (by decide) (i64_toInt _) with ⟨c1, m1⟩ | ⟨hr, c1, m1⟩
  · simp only [c1, m1, cal_s]
    exact ⟨-1, rfl, rfl⟩
  · have hne : ¬ (1 : Int32) = 0 := by decide
    simp only [c1, m1, cal_s, if_neg hne]
    have hs : (nI n - 1).toInt = (n : Int) - 1 := by
      have := pk_sub_toInt (a := n) (b := 1) (by omega) (by decide)
      exact this
    rw [hs, show (-1 : Int32).toInt = -1 by decide] at hr
    by_cases e : p = -1
    · subst e
      obtain ⟨r, a, b⟩ := L_cost h F hF F 0 0 (by omega) (by omega)
      have hneg : (-1 : Int32) < 0 := by decide
      simp only [if_true, if_pos hneg, fX8_costOfAll]
      have a2 : fX8_costOfAll_L4 F S F 0 0 = some r := a
      exact ⟨r, by rw [a2]; rfl, b⟩
    · have hp : p.toInt ≠ -1 := fun q => e ((t_eq _ _).mpr (by rw [q]; decide))
      obtain ⟨k, hk, rfl, hk2⟩ := rng_nI (p := p) (n := n - 1) (by omega) (by omega)
      have hnn : 0 < n := by rw [t_nI hk2] at hr; omega
      obtain ⟨r, t1, t2⟩ := Q_toppingOf h F k (by omega) hF
      have hneg : ¬ nI k < 0 := nI_pos (by omega)
      simp only [if_neg e, if_neg hneg, t1, t2, cal_s]
      exact ⟨r, rfl, rfl⟩
