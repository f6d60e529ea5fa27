theorem Q_block {S : St} {n : Nat} {B : Nat → Nat → Nat} (h : IvB S n B) (p1 : Int32) :
    ∃ (r : Int32) (S1 S2 : St) (n2 : Nat) (B2 : Nat → Nat → Nat), fX11_block S p1 = some (r, S1) ∧ fX12_block S1 p1 = some (r, S2) ∧ IvB S2 n2 B2 ∧ Ch 4 S S2 ∧ gC S1 = gC S ∧ gC S2 = gC S ∧ n ≤ n2 := by
  have hne : ¬ (1 : Int32) = 0 := by decide
  have bad : fX11_block S p1 = some (-1, S) → fX12_block S p1 = some (-1, S) → ∃ (r : Int32) (S1 S2 : St) (n2 : Nat) (B2 : Nat → Nat → Nat), fX11_block S p1 = some (r, S1) ∧ fX12_block S1 p1 = some (r, S2) ∧ IvB S2 n2 B2 ∧ Ch 4 S S2 ∧ gC S1 = gC S ∧ gC S2 = gC S ∧ n ≤ n2 := fun a b => ⟨-1, S, S, n, B, a, b, h, Ch.rf 4 S, rfl, rfl, Nat.le_refl n⟩
  rcases ar_n p1 1 1000000 (by decide) 1 1000000 1 1000000 (by decide) (by decide) (by decide) (by decide) with ⟨c1, m1⟩ | ⟨a1, rfl, l1, u1, c1, m1⟩
  · exact bad (by simp only [fX11_block, c1, cal_s]; rfl) (by simp only [fX12_block, m1, cal_s]; rfl)
  obtain ⟨h0, h1, h2, h3, h4⟩ := h
  by_cases hn8 : n = 12
  · subst hn8
    exact ⟨-3, S, S, 12, B, by simp only [fX11_block, c1, cal_s, if_neg hne, fX4_addBlock, h1]; rfl, by simp only [fX12_block, m1, cal_s, if_neg hne, h2]; rfl, ⟨h0, h1, h2, h3, h4⟩, Ch.rf 4 S, rfl, rfl, Nat.le_refl _⟩
  obtain ⟨S1, e1⟩ : ∃ S1 : St, S1 = pI (pA (pA S 20 0 n (nI a1)) 22 0 n (-1)) 4 0 3 (nI (n + 1)) := ⟨_, rfl⟩
  have hc1 : fX11_block S (nI a1) = some (nI n, S1) := by
    rw [e1]
    simp only [fX11_block, c1, cal_s, if_neg hne]
    simp (disch := omega) only [fX4_addBlock, h1, nI_lit, nI_add, pk_mul, nI_subn, cl, ix_nI, s_lt_t, s_lt_f, s_le_t, s_le_f, s_eq_t, s_eq_f, gd_t, gd_p, bnd_e, cal_s, if_true, if_false, ite_true, ite_false, and_true, true_and, and_false, false_and, not_true, not_false_eq_true, gA_ps, gA_pe, gA_pc, gA_pi, gA_pn, gI_ps, gI_pc, gI_pk, gI_pn, gB_ps, gB_pc, gB_pi, gJ_ps, gJ_pc, gA_pI, gA_pB, gA_pJ, gI_pA, gI_pB, gI_pJ, gB_pI, gB_pA, gB_pJ, gJ_pI, gJ_pA, gJ_pB, Nat.add_sub_cancel]
  have g1 : gI S1 11 0 13 = nI n := by rw [e1]; simp (disch := omega) only [gA_ps, gA_pe, gA_pc, gA_pi, gA_pn, gI_ps, gI_pc, gI_pk, gI_pn, gB_ps, gB_pc, gB_pi, gJ_ps, gJ_pc, gA_pI, gA_pB, gA_pJ, gI_pA, gI_pB, gI_pJ, gB_pI, gB_pA, gB_pJ, gJ_pI, gJ_pA, gJ_pB]; exact h2
  have hm : fX12_block S1 (nI a1) = some (nI n, pI (pA S1 64 0 n (nI a1)) 11 0 13 (nI (n + 1))) := by
    simp only [fX12_block, m1, cal_s, if_neg hne]
    simp (disch := omega) only [g1, nI_lit, nI_add, pk_mul, nI_subn, cl, ix_nI, s_lt_t, s_lt_f, s_le_t, s_le_f, s_eq_t, s_eq_f, gd_t, gd_p, bnd_e, cal_s, if_true, if_false, ite_true, ite_false, and_true, true_and, and_false, false_and, not_true, not_false_eq_true, gA_ps, gA_pe, gA_pc, gA_pi, gA_pn, gI_ps, gI_pc, gI_pk, gI_pn, gB_ps, gB_pc, gB_pi, gJ_ps, gJ_pc, gA_pI, gA_pB, gA_pJ, gI_pA, gI_pB, gI_pJ, gB_pI, gB_pA, gB_pJ, gJ_pI, gJ_pA, gJ_pB, Nat.add_sub_cancel]
  refine ⟨nI n, S1, _, n + 1, upT (upT (upT B 0 n a1) 1 n 0) 2 n 0, hc1, hm, ?_, ?_, by rw [e1]; rfl, by rw [e1]; rfl, by omega⟩
  · refine ⟨by omega, by rw [e1]; simp (disch := omega) only [gA_ps, gA_pe, gA_pc, gA_pi, gA_pn, gI_ps, gI_pc, gI_pk, gI_pn, gB_ps, gB_pc, gB_pi, gJ_ps, gJ_pc, gA_pI, gA_pB, gA_pJ, gI_pA, gI_pB, gI_pJ, gB_pI, gB_pA, gB_pJ, gJ_pI, gJ_pA, gJ_pB], by simp (disch := omega) only [gA_ps, gA_pe, gA_pc, gA_pi, gA_pn, gI_ps, gI_pc, gI_pk, gI_pn, gB_ps, gB_pc, gB_pi, gJ_ps, gJ_pc, gA_pI, gA_pB, gA_pJ, gI_pA, gI_pB, gI_pJ, gB_pI, gB_pA, gB_pJ, gJ_pI, gJ_pA, gJ_pB], fun i hi => ?_, fun i hi hj => ?_⟩
    · rw [e1]
      rcases Nat.lt_or_ge i n with hlt | hge
      · obtain q := h3 i hlt
        simp (disch := omega) only [gA_ps, gA_pe, gA_pc, gA_pi, gA_pn, gI_ps, gI_pc, gI_pk, gI_pn, gB_ps, gB_pc, gB_pi, gJ_ps, gJ_pc, gA_pI, gA_pB, gA_pJ, gI_pA, gI_pB, gI_pJ, gB_pI, gB_pA, gB_pJ, gJ_pI, gJ_pA, gJ_pB, upT_s, upT_f, upT_i]
        exact q
      · have e : i = n := by omega
        subst e
        simp (disch := omega) only [gA_ps, gA_pe, gA_pc, gA_pi, gA_pn, gI_ps, gI_pc, gI_pk, gI_pn, gB_ps, gB_pc, gB_pi, gJ_ps, gJ_pc, gA_pI, gA_pB, gA_pJ, gI_pA, gI_pB, gI_pJ, gB_pI, gB_pA, gB_pJ, gJ_pI, gJ_pA, gJ_pB, upT_s, upT_f, upT_i, true_and, and_true]
        refine ⟨rfl, fun q => absurd rfl q, fun _ => h4 i (Nat.le_refl i) (by omega), u1, by omega, by omega⟩
    · rw [e1]
      simp (disch := omega) only [gA_ps, gA_pe, gA_pc, gA_pi, gA_pn, gI_ps, gI_pc, gI_pk, gI_pn, gB_ps, gB_pc, gB_pi, gJ_ps, gJ_pc, gA_pI, gA_pB, gA_pJ, gI_pA, gI_pB, gI_pJ, gB_pI, gB_pA, gB_pJ, gJ_pI, gJ_pA, gJ_pB]
      exact h4 i (by omega) hj
  · rw [e1]; repeat (first | exact Ch.rf _ _ | refine Ch.pI ?_ _ (Or.inl rfl) | refine Ch.pA ?_ _ (Or.inl rfl))
theorem Q_book {S : St} {t n : Nat} {V : Nat → Nat → Nat} (ht : t < 2) (h : IvW S t n V) (p2 p3 p4 : Int32) :
    ∃ (r : Int32) (S1 S2 : St) (n2 : Nat) (V2 : Nat → Nat → Nat), fX11_book S (nI t) p2 p3 p4 = some (r, S1) ∧ fX12_book S1 (nI t) p2 p3 p4 = some (r, S2) ∧ IvW S2 t n2 V2 ∧ Ch (8 + t) S S2 ∧ gC S1 = gC S ∧ gC S2 = gC S := by
  have hne : ¬ (1 : Int32) = 0 := by decide
  obtain ⟨c1, m1⟩ : (∀ S, fX11_isTongue S (nI t) = some 1) ∧ ∀ S, fX12_isTongue S (nI t) = some 1 := by
    rcases (show t = 0 ∨ t = 1 by omega) with rfl | rfl
    · exact ⟨fun S => rfl, fun S => rfl⟩
    · exact ⟨fun S => rfl, fun S => rfl⟩
  have bad : fX11_book S (nI t) p2 p3 p4 = some (-1, S) → fX12_book S (nI t) p2 p3 p4 = some (-1, S) → ∃ (r : Int32) (S1 S2 : St) (n2 : Nat) (V2 : Nat → Nat → Nat), fX11_book S (nI t) p2 p3 p4 = some (r, S1) ∧ fX12_book S1 (nI t) p2 p3 p4 = some (r, S2) ∧ IvW S2 t n2 V2 ∧ Ch (8 + t) S S2 ∧ gC S1 = gC S ∧ gC S2 = gC S := fun a b => ⟨-1, S, S, n, V, a, b, h, Ch.rf _ S, rfl, rfl⟩
  rcases a_word p2 with ⟨c2, m2⟩ | ⟨a2, rfl, u2, c2, m2⟩
  · exact bad (by simp only [fX11_book, c1, c2, cal_s, if_neg hne]; rfl) (by simp only [fX12_book, m1, m2, cal_s, if_neg hne]; rfl)
  rcases a_year p3 with ⟨c3, m3⟩ | ⟨a3, rfl, u3, c3, m3⟩
  · exact bad (by simp only [fX11_book, c1, c2, c3, cal_s, if_neg hne]; rfl) (by simp only [fX12_book, m1, m2, m3, cal_s, if_neg hne]; rfl)
  rcases ar_n p4 0 63 (by decide) 0 63 0 63 (by decide) (by decide) (by decide) (by decide) with ⟨c4, m4⟩ | ⟨a4, rfl, -, u4, c4, m4⟩
  · exact bad (by simp only [fX11_book, c1, c2, c3, c4, cal_s, if_neg hne]; rfl) (by simp only [fX12_book, m1, m2, m3, m4, cal_s, if_neg hne]; rfl)
  obtain ⟨h0, h1, h2, h3⟩ := h
  by_cases hn8 : n = 20
  · subst hn8
    refine ⟨-3, S, S, 20, V, ?_, ?_, ⟨h0, h1, h2, h3⟩, Ch.rf _ S, rfl, rfl⟩
    · simp only [fX11_book, c1, c2, c3, c4, cal_s, if_neg hne, tongue_of S ht, fX10_tell, gd_p ht, h1]; rfl
    · simp only [fX12_book, m1, m2, m3, m4, cal_s, if_neg hne, ix_nI ht (by decide), gd_t, cl (show t < 2147483648 by omega), h2]; rfl
  obtain ⟨S1, e1⟩ : ∃ S1 : St, S1 = pI (pA (pA (pA S 48 t n (nI a2)) 49 t n (nI a3)) 50 t n (nI a4)) 9 t 3 (nI (n + 1)) := ⟨_, rfl⟩
  have hc1 : fX11_book S (nI t) (nI a2) (nI a3) (nI a4) = some (nI (n + 1), S1) := by
    rw [e1]
    simp only [fX11_book, c1, c2, c3, c4, cal_s, if_neg hne, tongue_of S ht, fX10_tell, gd_p ht]
    simp (disch := omega) only [h1, nI_lit, nI_add, pk_mul, nI_subn, cl, ix_nI, s_lt_t, s_lt_f, s_le_t, s_le_f, s_eq_t, s_eq_f, gd_t, gd_p, bnd_e, cal_s, if_true, if_false, ite_true, ite_false, and_true, true_and, and_false, false_and, not_true, not_false_eq_true, gA_ps, gA_pe, gA_pc, gA_pi, gA_pn, gI_ps, gI_pc, gI_pk, gI_pn, gB_ps, gB_pc, gB_pi, gJ_ps, gJ_pc, gA_pI, gA_pB, gA_pJ, gI_pA, gI_pB, gI_pJ, gB_pI, gB_pA, gB_pJ, gJ_pI, gJ_pA, gJ_pB]
  have g1 : gA S1 57 0 t = nI n := by rw [e1]; simp (disch := omega) only [gA_ps, gA_pe, gA_pc, gA_pi, gA_pn, gI_ps, gI_pc, gI_pk, gI_pn, gB_ps, gB_pc, gB_pi, gJ_ps, gJ_pc, gA_pI, gA_pB, gA_pJ, gI_pA, gI_pB, gI_pJ, gB_pI, gB_pA, gB_pJ, gJ_pI, gJ_pA, gJ_pB]; exact h2
  have hm : fX12_book S1 (nI t) (nI a2) (nI a3) (nI a4) = some (nI (n + 1), pA (pA (pA (pA S1 58 0 (60 * t + 3 * n) (nI a2)) 58 0 (60 * t + 3 * n + 1) (nI a3)) 58 0 (60 * t + 3 * n + 2) (nI a4)) 57 0 t (nI (n + 1))) := by
    simp only [fX12_book, m1, m2, m3, m4, cal_s, if_neg hne]
    simp (disch := omega) only [g1, nI_lit, nI_add, pk_mul, nI_subn, cl, ix_nI, s_lt_t, s_lt_f, s_le_t, s_le_f, s_eq_t, s_eq_f, gd_t, gd_p, bnd_e, cal_s, if_true, if_false, ite_true, ite_false, and_true, true_and, and_false, false_and, not_true, not_false_eq_true, gA_ps, gA_pe, gA_pc, gA_pi, gA_pn, gI_ps, gI_pc, gI_pk, gI_pn, gB_ps, gB_pc, gB_pi, gJ_ps, gJ_pc, gA_pI, gA_pB, gA_pJ, gI_pA, gI_pB, gI_pJ, gB_pI, gB_pA, gB_pJ, gJ_pI, gJ_pA, gJ_pB]
  refine ⟨nI (n + 1), S1, _, n + 1, upT (upT (upT V 0 n a2) 1 n a3) 2 n a4, hc1, hm, ?_, ?_, by rw [e1]; rfl, by rw [e1]; rfl⟩
  · refine ⟨by omega, by rw [e1]; simp (disch := omega) only [gA_ps, gA_pe, gA_pc, gA_pi, gA_pn, gI_ps, gI_pc, gI_pk, gI_pn, gB_ps, gB_pc, gB_pi, gJ_ps, gJ_pc, gA_pI, gA_pB, gA_pJ, gI_pA, gI_pB, gI_pJ, gB_pI, gB_pA, gB_pJ, gJ_pI, gJ_pA, gJ_pB], by simp (disch := omega) only [gA_ps, gA_pe, gA_pc, gA_pi, gA_pn, gI_ps, gI_pc, gI_pk, gI_pn, gB_ps, gB_pc, gB_pi, gJ_ps, gJ_pc, gA_pI, gA_pB, gA_pJ, gI_pA, gI_pB, gI_pJ, gB_pI, gB_pA, gB_pJ, gJ_pI, gJ_pA, gJ_pB], fun i hi => ?_⟩
    rw [e1]
    rcases Nat.lt_or_ge i n with hlt | hge
    · obtain q := h3 i hlt
      simp (disch := omega) only [gA_ps, gA_pe, gA_pc, gA_pi, gA_pn, gI_ps, gI_pc, gI_pk, gI_pn, gB_ps, gB_pc, gB_pi, gJ_ps, gJ_pc, gA_pI, gA_pB, gA_pJ, gI_pA, gI_pB, gI_pJ, gB_pI, gB_pA, gB_pJ, gJ_pI, gJ_pA, gJ_pB, upT_s, upT_f, upT_i]
      exact q
    · have e : i = n := by omega
      subst e
      simp (disch := omega) only [gA_ps, gA_pe, gA_pc, gA_pi, gA_pn, gI_ps, gI_pc, gI_pk, gI_pn, gB_ps, gB_pc, gB_pi, gJ_ps, gJ_pc, gA_pI, gA_pB, gA_pJ, gI_pA, gI_pB, gI_pJ, gB_pI, gB_pA, gB_pJ, gJ_pI, gJ_pA, gJ_pB, upT_s, upT_f, upT_i, true_and, and_true]
      omega
  · rw [e1]
    have o1 : ownA 58 0 (60 * t + 3 * n) = 8 + t := by unfold ownA; simp; omega
    have o2 : ownA 58 0 (60 * t + 3 * n + 1) = 8 + t := by unfold ownA; simp; omega
    have o3 : ownA 58 0 (60 * t + 3 * n + 2) = 8 + t := by unfold ownA; simp; omega
    refine Ch.pA (Ch.pA (Ch.pA (Ch.pA ?_ _ (Or.inl o1)) _ (Or.inl o2)) _ (Or.inl o3)) _ (Or.inl rfl)
    repeat (first | exact Ch.rf _ _ | refine Ch.pI ?_ _ (Or.inl rfl) | refine Ch.pA ?_ _ (Or.inl rfl))
theorem Q_wipe {S : St} {t n : Nat} {B : Nat → Nat} (ht : t < 2) (h : IvX S t n B) :
    ∃ (S1 S2 : St), fX11_wipe S (nI t) = some (nI n, S1) ∧ fX12_wipe S1 (nI t) = some (nI n, S2) ∧ IvX S2 t 0 B ∧ Ch (10 + t) S S2 ∧ gC S1 = gC S ∧ gC S2 = gC S := by
  have hne : ¬ (1 : Int32) = 0 := by decide
  obtain ⟨c1, m1⟩ : (∀ S, fX11_isTongue S (nI t) = some 1) ∧ ∀ S, fX12_isTongue S (nI t) = some 1 := by
    rcases (show t = 0 ∨ t = 1 by omega) with rfl | rfl
    · exact ⟨fun S => rfl, fun S => rfl⟩
    · exact ⟨fun S => rfl, fun S => rfl⟩
  obtain ⟨h0, h1, h2, h3⟩ := h
  have g1 : gA (pI S 8 t 1 (nI 0)) 53 0 t = nI n := h2
  refine ⟨pI S 8 t 1 (nI 0), pA (pI S 8 t 1 (nI 0)) 53 0 t (nI 0), ?_, ?_, ?_, ?_, rfl, rfl⟩
  · simp only [fX11_wipe, c1, cal_s, if_neg hne, tongue_of S ht, fX9_clear, gd_p ht, bnd_e, h1]; rfl
  · simp only [fX12_wipe, m1, cal_s, if_neg hne]
    simp (disch := omega) only [g1, nI_lit, nI_add, pk_mul, nI_subn, cl, ix_nI, s_lt_t, s_lt_f, s_le_t, s_le_f, s_eq_t, s_eq_f, gd_t, gd_p, bnd_e, cal_s, if_true, if_false, ite_true, ite_false, and_true, true_and, and_false, false_and, not_true, not_false_eq_true, gA_ps, gA_pe, gA_pc, gA_pi, gA_pn, gI_ps, gI_pc, gI_pk, gI_pn, gB_ps, gB_pc, gB_pi, gJ_ps, gJ_pc, gA_pI, gA_pB, gA_pJ, gI_pA, gI_pB, gI_pJ, gB_pI, gB_pA, gB_pJ, gJ_pI, gJ_pA, gJ_pB]
  · exact ⟨by omega, by simp (disch := omega) only [gA_ps, gA_pe, gA_pc, gA_pi, gA_pn, gI_ps, gI_pc, gI_pk, gI_pn, gB_ps, gB_pc, gB_pi, gJ_ps, gJ_pc, gA_pI, gA_pB, gA_pJ, gI_pA, gI_pB, gI_pJ, gB_pI, gB_pA, gB_pJ, gJ_pI, gJ_pA, gJ_pB], by simp (disch := omega) only [gA_ps, gA_pe, gA_pc, gA_pi, gA_pn, gI_ps, gI_pc, gI_pk, gI_pn, gB_ps, gB_pc, gB_pi, gJ_ps, gJ_pc, gA_pI, gA_pB, gA_pJ, gI_pA, gI_pB, gI_pJ, gB_pI, gB_pA, gB_pJ, gJ_pI, gJ_pA, gJ_pB], fun i hi => absurd hi (by omega)⟩
  · repeat (first | exact Ch.rf _ _ | refine Ch.pI ?_ _ (Or.inl rfl) | refine Ch.pA ?_ _ (Or.inl rfl))
theorem Q_die {S : St} {n : Nat} {P : Nat → Nat → Nat} (h : IvP S n P) (p1 p2 : Int32) :
    ∃ (r : Int32) (S1 S2 : St) (P2 : Nat → Nat → Nat), fX11_die S p1 p2 = some (r, S1) ∧ fX12_die S1 p1 p2 = some (r, S2) ∧ IvP S2 n P2 ∧ Ch 2 S S2 ∧ gC S1 = gC S ∧ gC S2 = gC S := by
  have hne : ¬ (1 : Int32) = 0 := by decide
  have bad : ∀ r : Int32, fX11_die S p1 p2 = some (r, S) → fX12_die S p1 p2 = some (r, S) → ∃ (r : Int32) (S1 S2 : St) (P2 : Nat → Nat → Nat), fX11_die S p1 p2 = some (r, S1) ∧ fX12_die S1 p1 p2 = some (r, S2) ∧ IvP S2 n P2 ∧ Ch 2 S S2 ∧ gC S1 = gC S ∧ gC S2 = gC S := fun r a b => ⟨r, S, S, P, a, b, h, Ch.rf 2 S, rfl, rfl⟩
  rcases a_person p1 n h.1 with ⟨c1, m1⟩ | ⟨a1, rfl, u1, c1, m1⟩
  · exact bad (-1) (by simp only [fX11_die, c1 S h.2.1, cal_s]; rfl) (by simp only [fX12_die, m1 S h.2.2.1, cal_s]; rfl)
  rcases a_year p2 with ⟨c2, m2⟩ | ⟨a2, rfl, u2, c2, m2⟩
  · exact bad (-1) (by simp only [fX11_die, c1 S h.2.1, c2, cal_s, if_neg hne]; rfl) (by simp only [fX12_die, m1 S h.2.2.1, m2, cal_s, if_neg hne]; rfl)
  obtain ⟨h0, h1, h2, h3⟩ := id h
  obtain ⟨q0, q1, q2, q3, q4, q5, q6, q7, q8, q9, q10, x0, x1, x⟩ := h3 a1 u1
  rcases x1 with x1 | x1
  · refine bad (-2) ?_ ?_
    · simp only [fX11_die, c1 S h1, c2, cal_s, if_neg hne]
      simp (disch := omega) only [q0, q1, nI_lit, nI_add, pk_mul, nI_subn, cl, ix_nI, s_lt_t, s_lt_f, s_le_t, s_le_f, s_eq_t, s_eq_f, gd_t, gd_p, bnd_e, cal_s, if_true, if_false, ite_true, ite_false, and_true, true_and, and_false, false_and, not_true, not_false_eq_true]
    · simp only [fX12_die, m1 S h2, m2, cal_s, if_neg hne]
      simp (disch := omega) only [q6, q7, nI_lit, nI_add, pk_mul, nI_subn, cl, ix_nI, s_lt_t, s_lt_f, s_le_t, s_le_f, s_eq_t, s_eq_f, gd_t, gd_p, bnd_e, cal_s, if_true, if_false, ite_true, ite_false, and_true, true_and, and_false, false_and, not_true, not_false_eq_true]
  · by_cases hb : P 0 a1 ≤ a2
    · have g1 : gA (pA S 35 0 a1 (nI a2)) 61 0 a1 = nI (P 1 a1) := q7
      have g2 : gA (pA S 35 0 a1 (nI a2)) 59 0 a1 = nI (P 0 a1) := q6
      refine ⟨nI 0, pA S 35 0 a1 (nI a2), pA (pA S 35 0 a1 (nI a2)) 61 0 a1 (nI a2), upT P 1 a1 a2, ?_, ?_, ?_, ?_, rfl, rfl⟩
      · simp only [fX11_die, c1 S h1, c2, cal_s, if_neg hne]
        simp (disch := omega) only [q0, q1, nI_lit, nI_add, pk_mul, nI_subn, cl, ix_nI, s_lt_t, s_lt_f, s_le_t, s_le_f, s_eq_t, s_eq_f, gd_t, gd_p, bnd_e, cal_s, if_true, if_false, ite_true, ite_false, and_true, true_and, and_false, false_and, not_true, not_false_eq_true]
      · simp only [fX12_die, m1 (pA S 35 0 a1 (nI a2)) h2, m2, cal_s, if_neg hne]
        simp (disch := omega) only [g1, g2, nI_lit, nI_add, pk_mul, nI_subn, cl, ix_nI, s_lt_t, s_lt_f, s_le_t, s_le_f, s_eq_t, s_eq_f, gd_t, gd_p, bnd_e, cal_s, if_true, if_false, ite_true, ite_false, and_true, true_and, and_false, false_and, not_true, not_false_eq_true]
      · refine ⟨h0, h1, h2, fun i hi => ?_⟩
        obtain q := h3 i hi
        by_cases e : i = a1
        · subst e
          simp (disch := omega) only [gA_ps, gA_pe, gA_pc, gA_pi, gA_pn, gI_ps, gI_pc, gI_pk, gI_pn, gB_ps, gB_pc, gB_pi, gJ_ps, gJ_pc, gA_pI, gA_pB, gA_pJ, gI_pA, gI_pB, gI_pJ, gB_pI, gB_pA, gB_pJ, gJ_pI, gJ_pA, gJ_pB, upT_s, upT_f, upT_i, true_and, and_true]
          exact ⟨q.1, q.2.2.1, q.2.2.2.1, q.2.2.2.2.1, q.2.2.2.2.2.1, q.2.2.2.2.2.2.1, q.2.2.2.2.2.2.2.2.1, q.2.2.2.2.2.2.2.2.2.1, q.2.2.2.2.2.2.2.2.2.2.1, x0, Or.inl u2, x⟩
        · simp (disch := omega) only [gA_ps, gA_pe, gA_pc, gA_pi, gA_pn, gI_ps, gI_pc, gI_pk, gI_pn, gB_ps, gB_pc, gB_pi, gJ_ps, gJ_pc, gA_pI, gA_pB, gA_pJ, gI_pA, gI_pB, gI_pJ, gB_pI, gB_pA, gB_pJ, gJ_pI, gJ_pA, gJ_pB, upT_s, upT_f, upT_i]
          exact q
      · repeat (first | exact Ch.rf _ _ | refine Ch.pI ?_ _ (Or.inl rfl) | refine Ch.pA ?_ _ (Or.inl rfl))
    · refine bad (-2) ?_ ?_
      · simp only [fX11_die, c1 S h1, c2, cal_s, if_neg hne]
        simp (disch := omega) only [q0, q1, nI_lit, nI_add, pk_mul, nI_subn, cl, ix_nI, s_lt_t, s_lt_f, s_le_t, s_le_f, s_eq_t, s_eq_f, gd_t, gd_p, bnd_e, cal_s, if_true, if_false, ite_true, ite_false, and_true, true_and, and_false, false_and, not_true, not_false_eq_true]
      · simp only [fX12_die, m1 S h2, m2, cal_s, if_neg hne]
        simp (disch := omega) only [q6, q7, nI_lit, nI_add, pk_mul, nI_subn, cl, ix_nI, s_lt_t, s_lt_f, s_le_t, s_le_f, s_eq_t, s_eq_f, gd_t, gd_p, bnd_e, cal_s, if_true, if_false, ite_true, ite_false, and_true, true_and, and_false, false_and, not_true, not_false_eq_true]
