/-- one value over: a row of the table i -/
theorem Q_say {S : St} {n np : Nat} {Z P : Nat → Nat → Nat} (h : IvY S n np Z) (hp : IvP S np P) (p1 p2 p3 p4 : Int32) (h4 : p4 = nI 0 ∨ p4 = nI 1) :
    ∃ (r : Int32) (S1 S2 : St) (n2 : Nat) (Z2 : Nat → Nat → Nat), fX11_say S p1 p2 p3 p4 = some (r, S1) ∧ fX12_say S1 p1 p2 p3 p4 = some (r, S2) ∧ IvY S2 n2 np Z2 ∧ Ch 3 S S2 ∧ gC S1 = gC S ∧ gC S2 = gC S := by
  have hne : ¬ (1 : Int32) = 0 := by decide
  have bad : fX11_say S p1 p2 p3 p4 = some (-1, S) → fX12_say S p1 p2 p3 p4 = some (-1, S) → ∃ (r : Int32) (S1 S2 : St) (n2 : Nat) (Z2 : Nat → Nat → Nat), fX11_say S p1 p2 p3 p4 = some (r, S1) ∧ fX12_say S1 p1 p2 p3 p4 = some (r, S2) ∧ IvY S2 n2 np Z2 ∧ Ch 3 S S2 ∧ gC S1 = gC S ∧ gC S2 = gC S := fun a b => ⟨-1, S, S, n, Z, a, b, h, Ch.rf 3 S, rfl, rfl⟩
  rcases a_person p1 np hp.1 with ⟨c1, m1⟩ | ⟨a1, rfl, u1, c1, m1⟩
  · exact bad (by simp only [fX11_say, c1 S hp.2.1, cal_s]; rfl) (by simp only [fX12_say, m1 S hp.2.2.1, cal_s]; rfl)
  rcases a_person p2 np hp.1 with ⟨c2, m2⟩ | ⟨a2, rfl, u2, c2, m2⟩
  · exact bad (by simp only [fX11_say, c1 S hp.2.1, c2 S hp.2.1, cal_s, if_neg hne]; rfl) (by simp only [fX12_say, m1 S hp.2.2.1, m2 S hp.2.2.1, cal_s, if_neg hne]; rfl)
  have hnp := hp.1
  by_cases e12 : a1 = a2
  · subst e12
    exact bad (by simp only [fX11_say, c1 S hp.2.1, cal_s, if_neg hne, if_true]) (by simp only [fX12_say, m1 S hp.2.2.1, cal_s, if_neg hne, if_true])
  have ne12 : ¬ nI a1 = nI a2 := c_ne e12 (by omega) (by omega)
  rcases a_kin p3 with ⟨c3, m3⟩ | ⟨a3, rfl, u3, c3, m3⟩
  · exact bad (by simp only [fX11_say, c1 S hp.2.1, c2 S hp.2.1, c3, cal_s, if_neg hne, if_neg ne12]; rfl) (by simp only [fX12_say, m1 S hp.2.2.1, m2 S hp.2.2.1, m3, cal_s, if_neg hne, if_neg ne12]; rfl)
  obtain ⟨h0, h1, h2, h3⟩ := h
  by_cases hn8 : n = 20
  · subst hn8
    exact ⟨-3, S, S, 20, Z, by simp only [fX11_say, c1 S hp.2.1, c2 S hp.2.1, c3, cal_s, if_neg hne, if_neg ne12, fX7_addSaying, h1]; rfl, by simp only [fX12_say, m1 S hp.2.2.1, m2 S hp.2.2.1, m3, cal_s, if_neg hne, if_neg ne12, h2]; rfl, ⟨h0, h1, h2, h3⟩, Ch.rf 3 S, rfl, rfl⟩
  obtain ⟨a4, rfl, u4⟩ : ∃ a4 : Nat, p4 = nI a4 ∧ a4 < 2 := by
    rcases h4 with h4 | h4
    · exact ⟨0, h4, by omega⟩
    · exact ⟨1, h4, by omega⟩
  have ea : nI a4 &&& 1 = nI a4 := by rcases (show a4 = 0 ∨ a4 = 1 by omega) with rfl | rfl <;> rfl
  obtain ⟨S1, e1⟩ : ∃ S1 : St, S1 = pI (pA (pA (pA (pA S 40 0 n (nI a1)) 41 0 n (nI a2)) 42 0 n (nI a3)) 43 0 n (nI a4)) 6 0 11 (nI (n + 1)) := ⟨_, rfl⟩
  have hc1 : fX11_say S (nI a1) (nI a2) (nI a3) (nI a4) = some (nI (n + 1), S1) := by
    rw [e1]
    simp only [fX11_say, c1 S hp.2.1, c2 S hp.2.1, c3, cal_s, if_neg hne, if_neg ne12]
    simp only [fX7_addSaying, ea]
    simp (disch := omega) only [h1, nI_lit, nI_add, pk_mul, nI_subn, cl, ix_nI, s_lt_t, s_lt_f, s_le_t, s_le_f, s_eq_t, s_eq_f, gd_t, gd_p, bnd_e, cal_s, if_true, if_false, ite_true, ite_false, and_true, true_and, and_false, false_and, not_true, not_false_eq_true, gA_ps, gA_pe, gA_pc, gA_pi, gA_pn, gI_ps, gI_pc, gI_pk, gI_pn, gB_ps, gB_pc, gB_pi, gJ_ps, gJ_pc, gA_pI, gA_pB, gA_pJ, gI_pA, gI_pB, gI_pJ, gB_pI, gB_pA, gB_pJ, gJ_pI, gJ_pA, gJ_pB]
  have g1 : gI S1 11 0 11 = nI n := by rw [e1]; simp (disch := omega) only [gA_ps, gA_pe, gA_pc, gA_pi, gA_pn, gI_ps, gI_pc, gI_pk, gI_pn, gB_ps, gB_pc, gB_pi, gJ_ps, gJ_pc, gA_pI, gA_pB, gA_pJ, gI_pA, gI_pB, gI_pJ, gB_pI, gB_pA, gB_pJ, gJ_pI, gJ_pA, gJ_pB]; exact h2
  have m1 := m1 S1 (by rw [e1]; simp (disch := omega) only [gA_ps, gA_pe, gA_pc, gA_pi, gA_pn, gI_ps, gI_pc, gI_pk, gI_pn, gB_ps, gB_pc, gB_pi, gJ_ps, gJ_pc, gA_pI, gA_pB, gA_pJ, gI_pA, gI_pB, gI_pJ, gB_pI, gB_pA, gB_pJ, gJ_pI, gJ_pA, gJ_pB]; exact hp.2.2.1)
  have m2 := m2 S1 (by rw [e1]; simp (disch := omega) only [gA_ps, gA_pe, gA_pc, gA_pi, gA_pn, gI_ps, gI_pc, gI_pk, gI_pn, gB_ps, gB_pc, gB_pi, gJ_ps, gJ_pc, gA_pI, gA_pB, gA_pJ, gI_pA, gI_pB, gI_pJ, gB_pI, gB_pA, gB_pJ, gJ_pI, gJ_pA, gJ_pB]; exact hp.2.2.1)
  have hm : fX12_say S1 (nI a1) (nI a2) (nI a3) (nI a4) = some (nI (n + 1), pI (pA (pA (pA (pA S1 63 0 (4 * n) (nI a1)) 63 0 (4 * n + 1) (nI a2)) 63 0 (4 * n + 2) (nI a3)) 63 0 (4 * n + 3) (nI a4)) 11 0 11 (nI (n + 1))) := by
    simp only [fX12_say, m1, m2, m3, cal_s, if_neg hne, if_neg ne12]
    rcases (show a4 = 0 ∨ a4 = 1 by omega) with rfl | rfl <;>
    simp (disch := omega) only [fX12_say_j96, g1, nI_lit, nI_add, pk_mul, nI_subn, cl, ix_nI, s_lt_t, s_lt_f, s_le_t, s_le_f, s_eq_t, s_eq_f, gd_t, gd_p, bnd_e, cal_s, if_true, if_false, ite_true, ite_false, and_true, true_and, and_false, false_and, not_true, not_false_eq_true, gA_ps, gA_pe, gA_pc, gA_pi, gA_pn, gI_ps, gI_pc, gI_pk, gI_pn, gB_ps, gB_pc, gB_pi, gJ_ps, gJ_pc, gA_pI, gA_pB, gA_pJ, gI_pA, gI_pB, gI_pJ, gB_pI, gB_pA, gB_pJ, gJ_pI, gJ_pA, gJ_pB]
  refine ⟨nI (n + 1), S1, _, n + 1, upT (upT (upT (upT Z 0 n a1) 1 n a2) 2 n a3) 3 n a4, hc1, hm, ?_, ?_, by rw [e1]; rfl, by rw [e1]; rfl⟩
  · refine ⟨by omega, by rw [e1]; simp (disch := omega) only [gA_ps, gA_pe, gA_pc, gA_pi, gA_pn, gI_ps, gI_pc, gI_pk, gI_pn, gB_ps, gB_pc, gB_pi, gJ_ps, gJ_pc, gA_pI, gA_pB, gA_pJ, gI_pA, gI_pB, gI_pJ, gB_pI, gB_pA, gB_pJ, gJ_pI, gJ_pA, gJ_pB], by simp (disch := omega) only [gA_ps, gA_pe, gA_pc, gA_pi, gA_pn, gI_ps, gI_pc, gI_pk, gI_pn, gB_ps, gB_pc, gB_pi, gJ_ps, gJ_pc, gA_pI, gA_pB, gA_pJ, gI_pA, gI_pB, gI_pJ, gB_pI, gB_pA, gB_pJ, gJ_pI, gJ_pA, gJ_pB], fun i hi => ?_⟩
    rw [e1]
    rcases Nat.lt_or_ge i n with hlt | hge
    · obtain h4 := h3 i hlt
      simp (disch := omega) only [gA_ps, gA_pe, gA_pc, gA_pi, gA_pn, gI_ps, gI_pc, gI_pk, gI_pn, gB_ps, gB_pc, gB_pi, gJ_ps, gJ_pc, gA_pI, gA_pB, gA_pJ, gI_pA, gI_pB, gI_pJ, gB_pI, gB_pA, gB_pJ, gJ_pI, gJ_pA, gJ_pB, upT_s, upT_f, upT_i, Nat.add_zero]
      simpa only [Nat.add_zero] using h4
    · have e : i = n := by omega
      subst e
      simp (disch := omega) only [gA_ps, gA_pe, gA_pc, gA_pi, gA_pn, gI_ps, gI_pc, gI_pk, gI_pn, gB_ps, gB_pc, gB_pi, gJ_ps, gJ_pc, gA_pI, gA_pB, gA_pJ, gI_pA, gI_pB, gI_pJ, gB_pI, gB_pA, gB_pJ, gJ_pI, gJ_pA, gJ_pB, upT_s, upT_f, upT_i, Nat.add_zero, true_and, and_true]
      omega
  · rw [e1]; repeat (first | exact Ch.rf _ _ | refine Ch.pI ?_ _ (Or.inl rfl) | refine Ch.pA ?_ _ (Or.inl rfl))
/-- PAPER and USE: the common part -/
theorem Q_hold {S : St} {n nb : Nat} {Z B : Nat → Nat → Nat} (h : IvH S n nb Z) (hb : IvB S nb B) (a1 a2 a3 w : Nat) (hw : w < 2) (u1 : a1 < nb) (u2 : (w = 0 → a2 ≤ 10) ∧ (w = 1 → 1 ≤ a2 ∧ a2 ≤ 1024)) (u3 : a3 ≤ 200) :
    ∃ (r : Int32) (S1 S2 : St) (n2 : Nat) (Z2 : Nat → Nat → Nat), fX4_addHolding S (nI a1) (nI w) (nI a2 - 1) (nI a3) = some (r, S1) ∧ fX12_hold S1 (nI a1) (nI w) (nI a2 - 1) (nI a3) = some (r, S2) ∧ IvH S2 n2 nb Z2 ∧ Ch 5 S S2 ∧ gC S1 = gC S ∧ gC S2 = gC S ∧ gI S1 11 0 13 = nI nb := by
  obtain ⟨h0, h1, h2, h3⟩ := h
  by_cases hn8 : n = 60
  · subst hn8
    exact ⟨-3, S, S, 60, Z, by simp only [fX4_addHolding, h1]; rfl, by simp only [fX12_hold, h2]; rfl, ⟨h0, h1, h2, h3⟩, Ch.rf 5 S, rfl, rfl, hb.2.2.1⟩
  have ea : nI w &&& 1 = nI w := by rcases (show w = 0 ∨ w = 1 by omega) with rfl | rfl <;> rfl
  obtain ⟨x, ex⟩ : ∃ x : Int32, x = nI a2 - 1 := ⟨_, rfl⟩
  rw [← ex]
  obtain ⟨S1, e1⟩ : ∃ S1 : St, S1 = pI (pA (pA (pA (pA S 23 0 n (nI a1)) 24 0 n (nI w)) 25 0 n x) 26 0 n (nI a3)) 4 0 8 (nI (n + 1)) := ⟨_, rfl⟩
  have hc1 : fX4_addHolding S (nI a1) (nI w) x (nI a3) = some (nI (n + 1), S1) := by
    rw [e1]
    simp only [fX4_addHolding, ea]
    simp (disch := omega) only [h1, nI_lit, nI_add, pk_mul, nI_subn, cl, ix_nI, s_lt_t, s_lt_f, s_le_t, s_le_f, s_eq_t, s_eq_f, gd_t, gd_p, bnd_e, cal_s, if_true, if_false, ite_true, ite_false, and_true, true_and, and_false, false_and, not_true, not_false_eq_true, gA_ps, gA_pe, gA_pc, gA_pi, gA_pn, gI_ps, gI_pc, gI_pk, gI_pn, gB_ps, gB_pc, gB_pi, gJ_ps, gJ_pc, gA_pI, gA_pB, gA_pJ, gI_pA, gI_pB, gI_pJ, gB_pI, gB_pA, gB_pJ, gJ_pI, gJ_pA, gJ_pB]
  have g1 : gI S1 11 0 15 = nI n := by rw [e1]; simp (disch := omega) only [gA_ps, gA_pe, gA_pc, gA_pi, gA_pn, gI_ps, gI_pc, gI_pk, gI_pn, gB_ps, gB_pc, gB_pi, gJ_ps, gJ_pc, gA_pI, gA_pB, gA_pJ, gI_pA, gI_pB, gI_pJ, gB_pI, gB_pA, gB_pJ, gJ_pI, gJ_pA, gJ_pB]; exact h2
  have hm : fX12_hold S1 (nI a1) (nI w) x (nI a3) = some (nI (n + 1), pI (pA (pA (pA (pA S1 65 0 (4 * n) (nI a1)) 65 0 (4 * n + 1) (nI w)) 65 0 (4 * n + 2) x) 65 0 (4 * n + 3) (nI a3)) 11 0 15 (nI (n + 1))) := by
    simp (disch := omega) only [fX12_hold, g1, nI_lit, nI_add, pk_mul, nI_subn, cl, ix_nI, s_lt_t, s_lt_f, s_le_t, s_le_f, s_eq_t, s_eq_f, gd_t, gd_p, bnd_e, cal_s, if_true, if_false, ite_true, ite_false, and_true, true_and, and_false, false_and, not_true, not_false_eq_true, gA_ps, gA_pe, gA_pc, gA_pi, gA_pn, gI_ps, gI_pc, gI_pk, gI_pn, gB_ps, gB_pc, gB_pi, gJ_ps, gJ_pc, gA_pI, gA_pB, gA_pJ, gI_pA, gI_pB, gI_pJ, gB_pI, gB_pA, gB_pJ, gJ_pI, gJ_pA, gJ_pB]
  refine ⟨nI (n + 1), S1, _, n + 1, upT (upT (upT (upT Z 0 n a1) 1 n w) 2 n a2) 3 n a3, hc1, hm, ?_, ?_, by rw [e1]; rfl, by rw [e1]; rfl, by rw [e1]; simp (disch := omega) only [gA_ps, gA_pe, gA_pc, gA_pi, gA_pn, gI_ps, gI_pc, gI_pk, gI_pn, gB_ps, gB_pc, gB_pi, gJ_ps, gJ_pc, gA_pI, gA_pB, gA_pJ, gI_pA, gI_pB, gI_pJ, gB_pI, gB_pA, gB_pJ, gJ_pI, gJ_pA, gJ_pB]; exact hb.2.2.1⟩
  · refine ⟨by omega, by rw [e1]; simp (disch := omega) only [gA_ps, gA_pe, gA_pc, gA_pi, gA_pn, gI_ps, gI_pc, gI_pk, gI_pn, gB_ps, gB_pc, gB_pi, gJ_ps, gJ_pc, gA_pI, gA_pB, gA_pJ, gI_pA, gI_pB, gI_pJ, gB_pI, gB_pA, gB_pJ, gJ_pI, gJ_pA, gJ_pB], by simp (disch := omega) only [gA_ps, gA_pe, gA_pc, gA_pi, gA_pn, gI_ps, gI_pc, gI_pk, gI_pn, gB_ps, gB_pc, gB_pi, gJ_ps, gJ_pc, gA_pI, gA_pB, gA_pJ, gI_pA, gI_pB, gI_pJ, gB_pI, gB_pA, gB_pJ, gJ_pI, gJ_pA, gJ_pB], fun i hi => ?_⟩
    rw [e1, ex]
    rcases Nat.lt_or_ge i n with hlt | hge
    · obtain h4 := h3 i hlt
      simp (disch := omega) only [gA_ps, gA_pe, gA_pc, gA_pi, gA_pn, gI_ps, gI_pc, gI_pk, gI_pn, gB_ps, gB_pc, gB_pi, gJ_ps, gJ_pc, gA_pI, gA_pB, gA_pJ, gI_pA, gI_pB, gI_pJ, gB_pI, gB_pA, gB_pJ, gJ_pI, gJ_pA, gJ_pB, upT_s, upT_f, upT_i]
      exact h4
    · have e : i = n := by omega
      subst e
      simp (disch := omega) only [gA_ps, gA_pe, gA_pc, gA_pi, gA_pn, gI_ps, gI_pc, gI_pk, gI_pn, gB_ps, gB_pc, gB_pi, gJ_ps, gJ_pc, gA_pI, gA_pB, gA_pJ, gI_pA, gI_pB, gI_pJ, gB_pI, gB_pA, gB_pJ, gJ_pI, gJ_pA, gJ_pB, upT_s, upT_f, upT_i, true_and, and_true]
      exact ⟨u1, hw, u2.1, u2.2, u3⟩
  · rw [e1]; repeat (first | exact Ch.rf _ _ | refine Ch.pI ?_ _ (Or.inl rfl) | refine Ch.pA ?_ _ (Or.inl rfl))
theorem Q_paper {S : St} {n nb : Nat} {Z B : Nat → Nat → Nat} (h : IvH S n nb Z) (hb : IvB S nb B) (p1 p2 p3 : Int32) :
    ∃ (r : Int32) (S1 S2 : St) (n2 : Nat) (Z2 : Nat → Nat → Nat), fX11_paper S p1 p2 p3 = some (r, S1) ∧ fX12_paper S1 p1 p2 p3 = some (r, S2) ∧ IvH S2 n2 nb Z2 ∧ Ch 5 S S2 ∧ gC S1 = gC S ∧ gC S2 = gC S := by
  have hne : ¬ (1 : Int32) = 0 := by decide
  have bad : fX11_paper S p1 p2 p3 = some (-1, S) → fX12_paper S p1 p2 p3 = some (-1, S) → ∃ (r : Int32) (S1 S2 : St) (n2 : Nat) (Z2 : Nat → Nat → Nat), fX11_paper S p1 p2 p3 = some (r, S1) ∧ fX12_paper S1 p1 p2 p3 = some (r, S2) ∧ IvH S2 n2 nb Z2 ∧ Ch 5 S S2 ∧ gC S1 = gC S ∧ gC S2 = gC S := fun a b => ⟨-1, S, S, n, Z, a, b, h, Ch.rf 5 S, rfl, rfl⟩
  rcases a_block p1 nb hb.1 with ⟨c1, m1⟩ | ⟨a1, rfl, u1, c1, m1⟩
  · exact bad (by simp only [fX11_paper, c1 S hb.2.1, cal_s]; rfl) (by simp only [fX12_paper, m1 S hb.2.2.1, cal_s]; rfl)
  rcases ar_s p2 9 (by decide) 9 9 (by decide) (by decide) with ⟨c2, m2⟩ | ⟨a2, rfl, u2, c2, m2⟩
  · exact bad (by simp only [fX11_paper, c1 S hb.2.1, c2, cal_s, if_neg hne]; rfl) (by simp only [fX12_paper, m1 S hb.2.2.1, m2, cal_s, if_neg hne]; rfl)
  rcases a_year p3 with ⟨c3, m3⟩ | ⟨a3, rfl, u3, c3, m3⟩
  · exact bad (by simp only [fX11_paper, c1 S hb.2.1, c2, c3, cal_s, if_neg hne]; rfl) (by simp only [fX12_paper, m1 S hb.2.2.1, m2, m3, cal_s, if_neg hne]; rfl)
  obtain ⟨r, S1, S2, n2, Z2, q1, q2, q3, q4, q5, q6, q7⟩ := Q_hold h hb a1 a2 a3 0 (by omega) u1 ⟨fun _ => by omega, fun q => by omega⟩ u3
  have q1 : fX4_addHolding S (nI a1) 0 (nI a2 - 1) (nI a3) = some (r, S1) := q1
  have q2 : fX12_hold S1 (nI a1) 0 (nI a2 - 1) (nI a3) = some (r, S2) := q2
  exact ⟨r, S1, S2, n2, Z2, by simp only [fX11_paper, c1 S hb.2.1, c2, c3, cal_s, if_neg hne, q1], by simp only [fX12_paper, m1 S1 q7, m2, m3, cal_s, if_neg hne, q2], q3, q4, q5, q6⟩
theorem Q_use {S : St} {n nb : Nat} {Z B : Nat → Nat → Nat} (h : IvH S n nb Z) (hb : IvB S nb B) (p1 p2 p3 : Int32) :
    ∃ (r : Int32) (S1 S2 : St) (n2 : Nat) (Z2 : Nat → Nat → Nat), fX11_use S p1 p2 p3 = some (r, S1) ∧ fX12_use S1 p1 p2 p3 = some (r, S2) ∧ IvH S2 n2 nb Z2 ∧ Ch 5 S S2 ∧ gC S1 = gC S ∧ gC S2 = gC S := by
  have hne : ¬ (1 : Int32) = 0 := by decide
  have bad : fX11_use S p1 p2 p3 = some (-1, S) → fX12_use S p1 p2 p3 = some (-1, S) → ∃ (r : Int32) (S1 S2 : St) (n2 : Nat) (Z2 : Nat → Nat → Nat), fX11_use S p1 p2 p3 = some (r, S1) ∧ fX12_use S1 p1 p2 p3 = some (r, S2) ∧ IvH S2 n2 nb Z2 ∧ Ch 5 S S2 ∧ gC S1 = gC S ∧ gC S2 = gC S := fun a b => ⟨-1, S, S, n, Z, a, b, h, Ch.rf 5 S, rfl, rfl⟩
  rcases a_block p1 nb hb.1 with ⟨c1, m1⟩ | ⟨a1, rfl, u1, c1, m1⟩
  · exact bad (by simp only [fX11_use, c1 S hb.2.1, cal_s]; rfl) (by simp only [fX12_use, m1 S hb.2.2.1, cal_s]; rfl)
  rcases ar_n p2 0 1023 (by decide) 0 1023 0 1023 (by decide) (by decide) (by decide) (by decide) with ⟨c2, m2⟩ | ⟨a2, rfl, -, u2, c2, m2⟩
  · exact bad (by simp only [fX11_use, c1 S hb.2.1, c2, cal_s, if_neg hne]; rfl) (by simp only [fX12_use, m1 S hb.2.2.1, m2, cal_s, if_neg hne]; rfl)
  rcases a_year p3 with ⟨c3, m3⟩ | ⟨a3, rfl, u3, c3, m3⟩
  · exact bad (by simp only [fX11_use, c1 S hb.2.1, c2, c3, cal_s, if_neg hne]; rfl) (by simp only [fX12_use, m1 S hb.2.2.1, m2, m3, cal_s, if_neg hne]; rfl)
  obtain ⟨r, S1, S2, n2, Z2, q1, q2, q3, q4, q5, q6, q7⟩ := Q_hold h hb a1 (a2 + 1) a3 1 (by omega) u1 ⟨fun _ => by omega, fun q => by omega⟩ u3
  rw [nI_pred] at q1 q2
  have q1 : fX4_addHolding S (nI a1) 1 (nI a2) (nI a3) = some (r, S1) := q1
  have q2 : fX12_hold S1 (nI a1) 1 (nI a2) (nI a3) = some (r, S2) := q2
  exact ⟨r, S1, S2, n2, Z2, by simp only [fX11_use, c1 S hb.2.1, c2, c3, cal_s, if_neg hne, q1], by simp only [fX12_use, m1 S1 q7, m2, m3, cal_s, if_neg hne, q2], q3, q4, q5, q6⟩
