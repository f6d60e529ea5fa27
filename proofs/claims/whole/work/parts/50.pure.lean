/-! PURE LAYER: words about states, numbers, loops -/
theorem gA_pA (S : St) (c n i : Nat) (v : Int32) (c' n' i' : Nat) : gA (pA S c n i v) c' n' i' = if c' = c ∧ n' = n ∧ i' = i then v else gA S c' n' i' := rfl
theorem gI_pI (S : St) (c n i : Nat) (v : Int32) (c' n' i' : Nat) : gI (pI S c n i v) c' n' i' = if c' = c ∧ n' = n ∧ i' = i then v else gI S c' n' i' := rfl
theorem gB_pB (S : St) (c n i : Nat) (v : Int64) (c' n' i' : Nat) : gB (pB S c n i v) c' n' i' = if c' = c ∧ n' = n ∧ i' = i then v else gB S c' n' i' := rfl
theorem gJ_pJ (S : St) (c n i : Nat) (v : Int64) (c' n' i' : Nat) : gJ (pJ S c n i v) c' n' i' = if c' = c ∧ n' = n ∧ i' = i then v else gJ S c' n' i' := rfl
theorem gI_pA (S : St) (c n i : Nat) (v : Int32) : gI (pA S c n i v) = gI S := rfl
theorem gI_pB (S : St) (c n i : Nat) (v : Int64) : gI (pB S c n i v) = gI S := rfl
theorem gI_pJ (S : St) (c n i : Nat) (v : Int64) : gI (pJ S c n i v) = gI S := rfl
theorem gA_pI (S : St) (c n i : Nat) (v : Int32) : gA (pI S c n i v) = gA S := rfl
theorem gA_pB (S : St) (c n i : Nat) (v : Int64) : gA (pB S c n i v) = gA S := rfl
theorem gA_pJ (S : St) (c n i : Nat) (v : Int64) : gA (pJ S c n i v) = gA S := rfl
theorem gB_pI (S : St) (c n i : Nat) (v : Int32) : gB (pI S c n i v) = gB S := rfl
theorem gB_pA (S : St) (c n i : Nat) (v : Int32) : gB (pA S c n i v) = gB S := rfl
theorem gB_pJ (S : St) (c n i : Nat) (v : Int64) : gB (pJ S c n i v) = gB S := rfl
theorem gJ_pI (S : St) (c n i : Nat) (v : Int32) : gJ (pI S c n i v) = gJ S := rfl
theorem gJ_pA (S : St) (c n i : Nat) (v : Int32) : gJ (pA S c n i v) = gJ S := rfl
theorem gJ_pB (S : St) (c n i : Nat) (v : Int64) : gJ (pB S c n i v) = gJ S := rfl
theorem gC_pI (S : St) (c n i : Nat) (v : Int32) : gC (pI S c n i v) = gC S := rfl
theorem gC_pA (S : St) (c n i : Nat) (v : Int32) : gC (pA S c n i v) = gC S := rfl
theorem gC_pB (S : St) (c n i : Nat) (v : Int64) : gC (pB S c n i v) = gC S := rfl
theorem gC_pJ (S : St) (c n i : Nat) (v : Int64) : gC (pJ S c n i v) = gC S := rfl
theorem gd_t {ρ : Type} (k : Option ρ) : gd true k = k := rfl
theorem cal_s {β ρ : Type} (b : β) (k : β → Option ρ) : cal (some b) k = k b := rfl
theorem bnd_e {β ρ : Type} (v : β) (k : β → Option ρ) : bnd v k = k v := rfl
theorem c_le {a b : Nat} (h : a ≤ b) (hb : b < 2147483648) : nI a ≤ nI b := nI_le h hb
theorem c_nle {a b : Nat} (h : b < a) (ha : a < 2147483648) : ¬ nI a ≤ nI b := nI_ge h ha
theorem c_lt {a b : Nat} (h : a < b) (hb : b < 2147483648) : nI a < nI b := nI_lt h hb
theorem c_nlt {a b : Nat} (h : b ≤ a) (ha : a < 2147483648) : ¬ nI a < nI b := nI_nlt h ha
theorem c_eq {a b : Nat} (ha : a < 2147483648) (hb : b < 2147483648) : (nI a = nI b) = (a = b) := propext (nI_eq ha hb)
theorem c_ne {a b : Nat} (h : a ≠ b) (ha : a < 2147483648) (hb : b < 2147483648) : ¬ nI a = nI b := fun e => h ((nI_eq ha hb).mp e)
theorem ix_nI {i n : Nat} (h : i < n) (hn : n < 2147483648) : ix (nI i) n = true := by
  have h0 : ¬ nI i < 0 := nI_pos (by omega)
  simp [ix, nI_clamp (show i < 2 ^ 31 by omega), h]
  exact Int32.not_lt.mp h0
theorem cl {i : Nat} (h : i < 2147483648) : (nI i).toNatClampNeg = i := nI_clamp h
theorem nI_lit (n : Nat) : (OfNat.ofNat n : Int32) = nI n := rfl
theorem nI_a1 (n : Nat) : nI n + 1 = nI (n + 1) := nI_1 n
theorem t_le (a b : Int32) : a ≤ b ↔ a.toInt ≤ b.toInt := Int32.le_iff_toInt_le
theorem t_lt (a b : Int32) : a < b ↔ a.toInt < b.toInt := Int32.lt_iff_toInt_lt
theorem t_eq (a b : Int32) : a = b ↔ a.toInt = b.toInt := Int32.toInt_inj.symm
theorem t_nI {n : Nat} (h : n < 2147483648) : (nI n).toInt = (n : Int) := nI_toInt h
/-- the two tests of a range -/
theorem within_s (S : St) (p a b : Int32) : fX11_within S p a b = some (if a.toInt ≤ p.toInt ∧ p.toInt ≤ b.toInt then 1 else 0) := by
  unfold fX11_within
  by_cases h1 : p < a
  · have : ¬ (a.toInt ≤ p.toInt ∧ p.toInt ≤ b.toInt) := fun q => by have := (t_lt _ _).mp h1; omega
    rw [if_pos h1, if_neg this]
  · rw [if_neg h1]
    by_cases h2 : b < p
    · have : ¬ (a.toInt ≤ p.toInt ∧ p.toInt ≤ b.toInt) := fun q => by have := (t_lt _ _).mp h2; omega
      rw [if_pos h2, if_neg this]
    · have : a.toInt ≤ p.toInt ∧ p.toInt ≤ b.toInt := by
        constructor
        · exact Int.not_lt.mp (fun q => h1 ((t_lt _ _).mpr q))
        · exact Int.not_lt.mp (fun q => h2 ((t_lt _ _).mpr q))
      rw [if_neg h2, if_pos this]
theorem i64_toInt (p : Int32) : p.toInt64.toInt = p.toInt := by simp
theorem lg_lt (x y : Int64) : lg_cmp x y < 0 ↔ x.toInt < y.toInt := by
  unfold lg_cmp
  by_cases h : x > y
  · rw [if_pos h]
    have := Int64.lt_iff_toInt_lt.mp h
    exact ⟨fun q => absurd q (by decide), fun q => by omega⟩
  · rw [if_neg h]
    by_cases h2 : x = y
    · rw [if_pos h2]
      subst h2
      exact ⟨fun q => absurd q (by decide), fun q => by omega⟩
    · rw [if_neg h2]
      refine ⟨fun _ => ?_, fun _ => by decide⟩
      have h3 : ¬ y.toInt < x.toInt := fun q => h (Int64.lt_iff_toInt_lt.mpr q)
      have h4 : x.toInt ≠ y.toInt := fun q => h2 (Int64.toInt_inj.mp q)
      omega
theorem lg_gt (x y : Int64) : 0 < lg_cmp x y ↔ y.toInt < x.toInt := by
  unfold lg_cmp
  by_cases h : x > y
  · rw [if_pos h]
    exact ⟨fun _ => Int64.lt_iff_toInt_lt.mp h, fun _ => by decide⟩
  · rw [if_neg h]
    have h3 : ¬ y.toInt < x.toInt := fun q => h (Int64.lt_iff_toInt_lt.mpr q)
    by_cases h2 : x = y
    · rw [if_pos h2]
      exact ⟨fun q => absurd q (by decide), fun q => absurd q h3⟩
    · rw [if_neg h2]
      exact ⟨fun q => absurd q (by decide), fun q => absurd q h3⟩
theorem in_s (S : St) (p a b : Int64) : fX12_in S p a b = some (if a.toInt ≤ p.toInt ∧ p.toInt ≤ b.toInt then 1 else 0) := by
  unfold fX12_in
  by_cases h1 : lg_cmp p a < 0
  · have : ¬ (a.toInt ≤ p.toInt ∧ p.toInt ≤ b.toInt) := fun q => by have := (lg_lt _ _).mp h1; omega
    rw [if_pos h1, if_neg this]
  · rw [if_neg h1]
    by_cases h2 : 0 < lg_cmp p b
    · have : ¬ (a.toInt ≤ p.toInt ∧ p.toInt ≤ b.toInt) := fun q => by have := (lg_gt _ _).mp h2; omega
      rw [if_pos h2, if_neg this]
    · have : a.toInt ≤ p.toInt ∧ p.toInt ≤ b.toInt := by
        constructor
        · exact Int.not_lt.mp (fun q => h1 ((lg_lt _ _).mpr q))
        · exact Int.not_lt.mp (fun q => h2 ((lg_gt _ _).mpr q))
      rw [if_neg h2, if_pos this]
/-- a number in a range from 0 is a natural one -/
theorem rng_nI {p : Int32} {n : Nat} (h0 : 0 ≤ p.toInt) (h1 : p.toInt ≤ n) : ∃ k : Nat, k ≤ n ∧ p = nI k ∧ k < 2147483648 := by
  obtain ⟨j, hj, e⟩ := nI_of (x := p) (fun q => by have := (t_lt _ _).mp q; simp at this; omega)
  refine ⟨j, ?_, e, hj⟩
  rw [e, t_nI hj] at h1
  omega
theorem s_lt_t {a b : Nat} (h : a < b) (hb : b < 2147483648) : (nI a < nI b) = True := eq_true (c_lt h hb)
theorem s_lt_f {a b : Nat} (h : b ≤ a) (ha : a < 2147483648) : (nI a < nI b) = False := eq_false (c_nlt h ha)
theorem s_le_t {a b : Nat} (h : a ≤ b) (hb : b < 2147483648) : (nI a ≤ nI b) = True := eq_true (c_le h hb)
theorem s_le_f {a b : Nat} (h : b < a) (ha : a < 2147483648) : (nI a ≤ nI b) = False := eq_false (c_nle h ha)
theorem s_eq_t {a b : Nat} (h : a = b) : (nI a = nI b) = True := eq_true (by rw [h])
theorem s_eq_f {a b : Nat} (h : a ≠ b) (ha : a < 2147483648) (hb : b < 2147483648) : (nI a = nI b) = False := eq_false (c_ne h ha hb)
theorem nI_subn {a b : Nat} (h : b ≤ a) : nI a - nI b = nI (a - b) := pk_sub h
theorem gA_ps (S : St) (c n i : Nat) (v : Int32) : gA (pA S c n i v) c n i = v := up3_self _ _ _ _ _
theorem gA_pe (S : St) (c n : Nat) (v : Int32) {i i' : Nat} (h : i' = i) : gA (pA S c n i v) c n i' = v := by rw [h]; exact gA_ps S c n i v
theorem gA_pc (S : St) (n i : Nat) (v : Int32) {c c' : Nat} (n' i' : Nat) (h : c' ≠ c) : gA (pA S c n i v) c' n' i' = gA S c' n' i' := by rw [gA_pA, if_neg (fun q => h q.1)]
theorem gA_pi (S : St) (c n : Nat) (v : Int32) (c' n' : Nat) {i i' : Nat} (h : i' ≠ i) : gA (pA S c n i v) c' n' i' = gA S c' n' i' := by rw [gA_pA, if_neg (fun q => h q.2.2)]
theorem gA_pn (S : St) (c i : Nat) (v : Int32) (c' i' : Nat) {n n' : Nat} (h : n' ≠ n) : gA (pA S c n i v) c' n' i' = gA S c' n' i' := by rw [gA_pA, if_neg (fun q => h q.2.1)]
theorem gI_ps (S : St) (c n i : Nat) (v : Int32) : gI (pI S c n i v) c n i = v := up3_self _ _ _ _ _
theorem gI_pc (S : St) (n i : Nat) (v : Int32) {c c' : Nat} (n' i' : Nat) (h : c' ≠ c) : gI (pI S c n i v) c' n' i' = gI S c' n' i' := by rw [gI_pI, if_neg (fun q => h q.1)]
theorem gI_pk (S : St) (c n : Nat) (v : Int32) (c' n' : Nat) {i i' : Nat} (h : i' ≠ i) : gI (pI S c n i v) c' n' i' = gI S c' n' i' := by rw [gI_pI, if_neg (fun q => h q.2.2)]
theorem gI_pn (S : St) (c i : Nat) (v : Int32) (c' i' : Nat) {n n' : Nat} (h : n' ≠ n) : gI (pI S c n i v) c' n' i' = gI S c' n' i' := by rw [gI_pI, if_neg (fun q => h q.2.1)]
theorem gB_ps (S : St) (c n i : Nat) (v : Int64) : gB (pB S c n i v) c n i = v := up3_self _ _ _ _ _
theorem gB_pc (S : St) (n i : Nat) (v : Int64) {c c' : Nat} (n' i' : Nat) (h : c' ≠ c) : gB (pB S c n i v) c' n' i' = gB S c' n' i' := by rw [gB_pB, if_neg (fun q => h q.1)]
theorem gB_pi (S : St) (c n : Nat) (v : Int64) (c' n' : Nat) {i i' : Nat} (h : i' ≠ i) : gB (pB S c n i v) c' n' i' = gB S c' n' i' := by rw [gB_pB, if_neg (fun q => h q.2.2)]
theorem gJ_ps (S : St) (c n i : Nat) (v : Int64) : gJ (pJ S c n i v) c n i = v := up3_self _ _ _ _ _
theorem gJ_pc (S : St) (n i : Nat) (v : Int64) {c c' : Nat} (n' i' : Nat) (h : c' ≠ c) : gJ (pJ S c n i v) c' n' i' = gJ S c' n' i' := by rw [gJ_pJ, if_neg (fun q => h q.1)]
