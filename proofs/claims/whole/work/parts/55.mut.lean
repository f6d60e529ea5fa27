theorem Q_claim {S : St} {n np : Nat} {Z P : Nat → Nat → Nat} (h : IvC S n np Z) (hp : IvP S np P) (p1 p2 p3 p4 p5 p6 : Int32) :
    ∃ (r : Int32) (S1 S2 : St) (n2 : Nat) (Z2 : Nat → Nat → Nat), fX11_claim S p1 p2 p3 p4 p5 p6 = some (r, S1) ∧ fX12_claim S1 p1 p2 p3 p4 p5 p6 = some (r, S2) ∧ IvC S2 n2 np Z2 ∧ Ch 1 S S2 ∧ gC S1 = gC S ∧ gC S2 = gC S := by
  have hne : ¬ (1 : Int32) = 0 := by decide
  have bad : fX11_claim S p1 p2 p3 p4 p5 p6 = some (-1, S) → fX12_claim S p1 p2 p3 p4 p5 p6 = some (-1, S) → ∃ (r : Int32) (S1 S2 : St) (n2 : Nat) (Z2 : Nat → Nat → Nat), fX11_claim S p1 p2 p3 p4 p5 p6 = some (r, S1) ∧ fX12_claim S1 p1 p2 p3 p4 p5 p6 = some (r, S2) ∧ IvC S2 n2 np Z2 ∧ Ch 1 S S2 ∧ gC S1 = gC S ∧ gC S2 = gC S := fun a b => ⟨-1, S, S, n, Z, a, b, h, Ch.rf 1 S, rfl, rfl⟩
  rcases a_kin p1 with ⟨c1, m1⟩ | ⟨a1, rfl, u1, c1, m1⟩
  · exact bad (by simp only [fX11_claim, fX11_claim_j62, fX11_claim_j63, c1, cal_s, if_neg hne]; rfl) (by simp only [fX12_claim, m1, cal_s, if_neg hne]; rfl)
  rcases ar_n p2 1 100 (by decide) 1 100 1 100 (by decide) (by decide) (by decide) (by decide) with ⟨c2, m2⟩ | ⟨a2, rfl, l2, u2, c2, m2⟩
  · exact bad (by simp only [fX11_claim, fX11_claim_j62, fX11_claim_j63, c1, c2, cal_s, if_neg hne]; rfl) (by simp only [fX12_claim, m1, m2, cal_s, if_neg hne]; rfl)
  rcases a_person p3 np hp.1 with ⟨c3, m3⟩ | ⟨a3, rfl, u3, c3, m3⟩
  · exact bad (by simp only [fX11_claim, fX11_claim_j62, fX11_claim_j63, c1, c2, c3 S hp.2.1, cal_s, if_neg hne]; rfl) (by simp only [fX12_claim, m1, m2, m3 S hp.2.2.1, cal_s, if_neg hne]; rfl)
  rcases ar_n p4 1 5 (by decide) 1 5 1 5 (by decide) (by decide) (by decide) (by decide) with ⟨c4, m4⟩ | ⟨a4, rfl, l4, u4, c4, m4⟩
  · exact bad (by simp only [fX11_claim, fX11_claim_j62, fX11_claim_j63, c1, c2, c3 S hp.2.1, c4, cal_s, if_neg hne]; rfl) (by simp only [fX12_claim, m1, m2, m3 S hp.2.2.1, m4, cal_s, if_neg hne]; rfl)
  rcases a_facts p5 with ⟨c5, m5⟩ | ⟨a5, rfl, u5, c5, m5⟩
  · exact bad (by simp only [fX11_claim, fX11_claim_j62, fX11_claim_j63, c1, c2, c3 S hp.2.1, c4, c5, cal_s, if_neg hne]; rfl) (by simp only [fX12_claim, m1, m2, m3 S hp.2.2.1, m4, m5, cal_s, if_neg hne]; rfl)
  rcases ar_n p6 1 1000 (by decide) 1 1000 1 1000 (by decide) (by decide) (by decide) (by decide) with ⟨c6, m6⟩ | ⟨a6, rfl, l6, u6, c6, m6⟩
  · exact bad (by simp only [fX11_claim, fX11_claim_j62, fX11_claim_j63, c1, c2, c3 S hp.2.1, c4, c5, c6, cal_s, if_neg hne]; rfl) (by simp only [fX12_claim, m1, m2, m3 S hp.2.2.1, m4, m5, m6, cal_s, if_neg hne]; rfl)
  obtain ⟨h0, h1, h2, h3⟩ := h
  by_cases hn8 : n = 9
  · subst hn8
    exact ⟨-3, S, S, 9, Z, by simp only [fX11_claim, fX11_claim_j62, fX11_claim_j63, c1, c2, c3 S hp.2.1, c4, c5, c6, cal_s, if_neg hne, fX0_add, h1]; rfl, by simp only [fX12_claim, m1, m2, m3 S hp.2.2.1, m4, m5, m6, cal_s, if_neg hne, h2]; rfl, ⟨h0, h1, h2, h3⟩, Ch.rf 1 S, rfl, rfl⟩
  obtain ⟨S1, e1⟩ : ∃ S1 : St, S1 = pI (pA (pA (pA (pA (pA (pA S 12 0 n (nI a1)) 13 0 n (nI a2)) 14 0 n (nI a3)) 15 0 n (nI a4)) 16 0 n (nI a5)) 17 0 n (nI a6)) 0 0 6 (nI (n + 1)) := ⟨_, rfl⟩
  have hc1 : fX11_claim S (nI a1) (nI a2) (nI a3) (nI a4) (nI a5) (nI a6) = some (nI n, S1) := by
    rw [e1]
    simp only [fX11_claim, fX11_claim_j62, fX11_claim_j63, c1, c2, c3 S hp.2.1, c4, c5, c6, cal_s, if_neg hne]
    simp (disch := omega) only [fX0_add, h1, nI_lit, nI_add, pk_mul, nI_subn, cl, ix_nI, s_lt_t, s_lt_f, s_le_t, s_le_f, s_eq_t, s_eq_f, gd_t, gd_p, bnd_e, cal_s, if_true, if_false, ite_true, ite_false, and_true, true_and, and_false, false_and, not_true, not_false_eq_true, gA_ps, gA_pe, gA_pc, gA_pi, gA_pn, gI_ps, gI_pc, gI_pk, gI_pn, gB_ps, gB_pc, gB_pi, gJ_ps, gJ_pc, gA_pI, gA_pB, gA_pJ, gI_pA, gI_pB, gI_pJ, gB_pI, gB_pA, gB_pJ, gJ_pI, gJ_pA, gJ_pB, Nat.add_sub_cancel]
  have g1 : gI S1 11 0 23 = nI n := by rw [e1]; simp (disch := omega) only [gA_ps, gA_pe, gA_pc, gA_pi, gA_pn, gI_ps, gI_pc, gI_pk, gI_pn, gB_ps, gB_pc, gB_pi, gJ_ps, gJ_pc, gA_pI, gA_pB, gA_pJ, gI_pA, gI_pB, gI_pJ, gB_pI, gB_pA, gB_pJ, gJ_pI, gJ_pA, gJ_pB]; exact h2
  have m3 := m3 S1 (by rw [e1]; simp (disch := omega) only [gA_ps, gA_pe, gA_pc, gA_pi, gA_pn, gI_ps, gI_pc, gI_pk, gI_pn, gB_ps, gB_pc, gB_pi, gJ_ps, gJ_pc, gA_pI, gA_pB, gA_pJ, gI_pA, gI_pB, gI_pJ, gB_pI, gB_pA, gB_pJ, gJ_pI, gJ_pA, gJ_pB]; exact hp.2.2.1)
  have hm : fX12_claim S1 (nI a1) (nI a2) (nI a3) (nI a4) (nI a5) (nI a6) = some (nI n, pI (pA (pA (pA (pA (pA (pA S1 70 0 (6 * n) (nI a1)) 70 0 (6 * n + 1) (nI a2)) 70 0 (6 * n + 2) (nI a3)) 70 0 (6 * n + 3) (nI a4)) 70 0 (6 * n + 4) (nI a5)) 70 0 (6 * n + 5) (nI a6)) 11 0 23 (nI (n + 1))) := by
    simp only [fX12_claim, m1, m2, m3, m4, m5, m6, cal_s, if_neg hne]
    simp (disch := omega) only [g1, nI_lit, nI_add, pk_mul, nI_subn, cl, ix_nI, s_lt_t, s_lt_f, s_le_t, s_le_f, s_eq_t, s_eq_f, gd_t, gd_p, bnd_e, cal_s, if_true, if_false, ite_true, ite_false, and_true, true_and, and_false, false_and, not_true, not_false_eq_true, gA_ps, gA_pe, gA_pc, gA_pi, gA_pn, gI_ps, gI_pc, gI_pk, gI_pn, gB_ps, gB_pc, gB_pi, gJ_ps, gJ_pc, gA_pI, gA_pB, gA_pJ, gI_pA, gI_pB, gI_pJ, gB_pI, gB_pA, gB_pJ, gJ_pI, gJ_pA, gJ_pB, Nat.add_sub_cancel, Nat.add_assoc, Nat.reduceAdd]
  refine ⟨nI n, S1, pI (pA (pA (pA (pA (pA (pA S1 70 0 (6 * n) (nI a1)) 70 0 (6 * n + 1) (nI a2)) 70 0 (6 * n + 2) (nI a3)) 70 0 (6 * n + 3) (nI a4)) 70 0 (6 * n + 4) (nI a5)) 70 0 (6 * n + 5) (nI a6)) 11 0 23 (nI (n + 1)), n + 1, upT (upT (upT (upT (upT (upT Z 0 n a1) 1 n a2) 2 n a3) 3 n a4) 4 n a5) 5 n a6, hc1, hm, ?_, ?_, by rw [e1]; rfl, by rw [e1]; rfl⟩
  · refine ⟨by omega, by rw [e1]; simp (disch := omega) only [gA_ps, gA_pe, gA_pc, gA_pi, gA_pn, gI_ps, gI_pc, gI_pk, gI_pn, gB_ps, gB_pc, gB_pi, gJ_ps, gJ_pc, gA_pI, gA_pB, gA_pJ, gI_pA, gI_pB, gI_pJ, gB_pI, gB_pA, gB_pJ, gJ_pI, gJ_pA, gJ_pB], by simp (disch := omega) only [gA_ps, gA_pe, gA_pc, gA_pi, gA_pn, gI_ps, gI_pc, gI_pk, gI_pn, gB_ps, gB_pc, gB_pi, gJ_ps, gJ_pc, gA_pI, gA_pB, gA_pJ, gI_pA, gI_pB, gI_pJ, gB_pI, gB_pA, gB_pJ, gJ_pI, gJ_pA, gJ_pB], fun i hi => ?_⟩
    rw [e1]
    rcases Nat.lt_or_ge i n with hlt | hge
    · obtain h4 := h3 i hlt
      simp (disch := omega) only [gA_ps, gA_pe, gA_pc, gA_pi, gA_pn, gI_ps, gI_pc, gI_pk, gI_pn, gB_ps, gB_pc, gB_pi, gJ_ps, gJ_pc, gA_pI, gA_pB, gA_pJ, gI_pA, gI_pB, gI_pJ, gB_pI, gB_pA, gB_pJ, gJ_pI, gJ_pA, gJ_pB, upT_s, upT_f, upT_i, Nat.add_zero]
      simpa only [Nat.add_zero] using h4
    · have e : i = n := by omega
      subst e
      simp (disch := omega) only [gA_ps, gA_pe, gA_pc, gA_pi, gA_pn, gI_ps, gI_pc, gI_pk, gI_pn, gB_ps, gB_pc, gB_pi, gJ_ps, gJ_pc, gA_pI, gA_pB, gA_pJ, gI_pA, gI_pB, gI_pJ, gB_pI, gB_pA, gB_pJ, gJ_pI, gJ_pA, gJ_pB, upT_s, upT_f, upT_i, Nat.add_zero, true_and, and_true]
      try omega
  · rw [e1]; exact (((((((((((((((Ch.rf 1 S).pA (c := 12) (n := 0) (j := n) _ (Or.inl rfl)).pA (c := 13) (n := 0) (j := n) _ (Or.inl rfl)).pA (c := 14) (n := 0) (j := n) _ (Or.inl rfl)).pA (c := 15) (n := 0) (j := n) _ (Or.inl rfl)).pA (c := 16) (n := 0) (j := n) _ (Or.inl rfl)).pA (c := 17) (n := 0) (j := n) _ (Or.inl rfl)).pI (c := 0) (n := 0) (j := 6) _ (Or.inl rfl)).pA (c := 70) (n := 0) (j := 6 * n) _ (Or.inl rfl)).pA (c := 70) (n := 0) (j := 6 * n + 1) _ (Or.inl rfl)).pA (c := 70) (n := 0) (j := 6 * n + 2) _ (Or.inl rfl)).pA (c := 70) (n := 0) (j := 6 * n + 3) _ (Or.inl rfl)).pA (c := 70) (n := 0) (j := 6 * n + 4) _ (Or.inl rfl)).pA (c := 70) (n := 0) (j := 6 * n + 5) _ (Or.inl rfl)).pI (c := 11) (n := 0) (j := 23) _ (Or.inl rfl))
theorem Q_deed {S : St} {n nb : Nat} {Z B : Nat → Nat → Nat} (h : IvD S n nb Z) (hb : IvB S nb B) (p1 p2 p3 p4 : Int32) :
    ∃ (r : Int32) (S1 S2 : St) (n2 : Nat) (Z2 : Nat → Nat → Nat), fX11_deed S p1 p2 p3 p4 = some (r, S1) ∧ fX12_deed S1 p1 p2 p3 p4 = some (r, S2) ∧ IvD S2 n2 nb Z2 ∧ Ch 6 S S2 ∧ gC S1 = gC S ∧ gC S2 = gC S := by
  have hne : ¬ (1 : Int32) = 0 := by decide
  have bad : fX11_deed S p1 p2 p3 p4 = some (-1, S) → fX12_deed S p1 p2 p3 p4 = some (-1, S) → ∃ (r : Int32) (S1 S2 : St) (n2 : Nat) (Z2 : Nat → Nat → Nat), fX11_deed S p1 p2 p3 p4 = some (r, S1) ∧ fX12_deed S1 p1 p2 p3 p4 = some (r, S2) ∧ IvD S2 n2 nb Z2 ∧ Ch 6 S S2 ∧ gC S1 = gC S ∧ gC S2 = gC S := fun a b => ⟨-1, S, S, n, Z, a, b, h, Ch.rf 6 S, rfl, rfl⟩
  rcases a_block p1 nb hb.1 with ⟨c1, m1⟩ | ⟨a1, rfl, u1, c1, m1⟩
  · exact bad (by simp only [fX11_deed, c1 S hb.2.1, cal_s, if_neg hne]; rfl) (by simp only [fX12_deed, m1 S hb.2.2.1, cal_s, if_neg hne]; rfl)
  rcases a_kin p2 with ⟨c2, m2⟩ | ⟨a2, rfl, u2, c2, m2⟩
  · exact bad (by simp only [fX11_deed, c1 S hb.2.1, c2, cal_s, if_neg hne]; rfl) (by simp only [fX12_deed, m1 S hb.2.2.1, m2, cal_s, if_neg hne]; rfl)
  rcases ar_n p3 0 5 (by decide) 0 5 0 5 (by decide) (by decide) (by decide) (by decide) with ⟨c3, m3⟩ | ⟨a3, rfl, l3, u3, c3, m3⟩
  · exact bad (by simp only [fX11_deed, c1 S hb.2.1, c2, c3, cal_s, if_neg hne]; rfl) (by simp only [fX12_deed, m1 S hb.2.2.1, m2, m3, cal_s, if_neg hne]; rfl)
  rcases a_year p4 with ⟨c4, m4⟩ | ⟨a4, rfl, u4, c4, m4⟩
  · exact bad (by simp only [fX11_deed, c1 S hb.2.1, c2, c3, c4, cal_s, if_neg hne]; rfl) (by simp only [fX12_deed, m1 S hb.2.2.1, m2, m3, m4, cal_s, if_neg hne]; rfl)
  obtain ⟨h0, h1, h2, h3⟩ := h
  by_cases hn8 : n = 20
  · subst hn8
    exact ⟨-3, S, S, 20, Z, by simp only [fX11_deed, c1 S hb.2.1, c2, c3, c4, cal_s, if_neg hne, fX4_addDeed, h1]; rfl, by simp only [fX12_deed, m1 S hb.2.2.1, m2, m3, m4, cal_s, if_neg hne, h2]; rfl, ⟨h0, h1, h2, h3⟩, Ch.rf 6 S, rfl, rfl⟩
  obtain ⟨S1, e1⟩ : ∃ S1 : St, S1 = pI (pA (pA (pA S 27 0 n (nI a1)) 28 0 n (nI a2)) 29 0 n (nI a4)) 4 0 12 (nI (n + 1)) := ⟨_, rfl⟩
  have hc1 : fX11_deed S (nI a1) (nI a2) (nI a3) (nI a4) = some (nI n, S1) := by
    rw [e1]
    simp only [fX11_deed, c1 S hb.2.1, c2, c3, c4, cal_s, if_neg hne]
    simp (disch := omega) only [fX4_addDeed, h1, nI_lit, nI_add, pk_mul, nI_subn, cl, ix_nI, s_lt_t, s_lt_f, s_le_t, s_le_f, s_eq_t, s_eq_f, gd_t, gd_p, bnd_e, cal_s, if_true, if_false, ite_true, ite_false, and_true, true_and, and_false, false_and, not_true, not_false_eq_true, gA_ps, gA_pe, gA_pc, gA_pi, gA_pn, gI_ps, gI_pc, gI_pk, gI_pn, gB_ps, gB_pc, gB_pi, gJ_ps, gJ_pc, gA_pI, gA_pB, gA_pJ, gI_pA, gI_pB, gI_pJ, gB_pI, gB_pA, gB_pJ, gJ_pI, gJ_pA, gJ_pB, Nat.add_sub_cancel]
  have g1 : gI S1 11 0 17 = nI n := by rw [e1]; simp (disch := omega) only [gA_ps, gA_pe, gA_pc, gA_pi, gA_pn, gI_ps, gI_pc, gI_pk, gI_pn, gB_ps, gB_pc, gB_pi, gJ_ps, gJ_pc, gA_pI, gA_pB, gA_pJ, gI_pA, gI_pB, gI_pJ, gB_pI, gB_pA, gB_pJ, gJ_pI, gJ_pA, gJ_pB]; exact h2
  have m1 := m1 S1 (by rw [e1]; simp (disch := omega) only [gA_ps, gA_pe, gA_pc, gA_pi, gA_pn, gI_ps, gI_pc, gI_pk, gI_pn, gB_ps, gB_pc, gB_pi, gJ_ps, gJ_pc, gA_pI, gA_pB, gA_pJ, gI_pA, gI_pB, gI_pJ, gB_pI, gB_pA, gB_pJ, gJ_pI, gJ_pA, gJ_pB]; exact hb.2.2.1)
  have hm : fX12_deed S1 (nI a1) (nI a2) (nI a3) (nI a4) = some (nI n, pI (pA (pA (pA (pA S1 66 0 (4 * n) (nI a1)) 66 0 (4 * n + 1) (nI a2)) 66 0 (4 * n + 2) (nI a3)) 66 0 (4 * n + 3) (nI a4)) 11 0 17 (nI (n + 1))) := by
    simp only [fX12_deed, m1, m2, m3, m4, cal_s, if_neg hne]
    simp (disch := omega) only [g1, nI_lit, nI_add, pk_mul, nI_subn, cl, ix_nI, s_lt_t, s_lt_f, s_le_t, s_le_f, s_eq_t, s_eq_f, gd_t, gd_p, bnd_e, cal_s, if_true, if_false, ite_true, ite_false, and_true, true_and, and_false, false_and, not_true, not_false_eq_true, gA_ps, gA_pe, gA_pc, gA_pi, gA_pn, gI_ps, gI_pc, gI_pk, gI_pn, gB_ps, gB_pc, gB_pi, gJ_ps, gJ_pc, gA_pI, gA_pB, gA_pJ, gI_pA, gI_pB, gI_pJ, gB_pI, gB_pA, gB_pJ, gJ_pI, gJ_pA, gJ_pB, Nat.add_sub_cancel, Nat.add_assoc, Nat.reduceAdd]
  refine ⟨nI n, S1, pI (pA (pA (pA (pA S1 66 0 (4 * n) (nI a1)) 66 0 (4 * n + 1) (nI a2)) 66 0 (4 * n + 2) (nI a3)) 66 0 (4 * n + 3) (nI a4)) 11 0 17 (nI (n + 1)), n + 1, upT (upT (upT Z 0 n a1) 1 n a2) 2 n a4, hc1, hm, ?_, ?_, by rw [e1]; rfl, by rw [e1]; rfl⟩
  · refine ⟨by omega, by rw [e1]; simp (disch := omega) only [gA_ps, gA_pe, gA_pc, gA_pi, gA_pn, gI_ps, gI_pc, gI_pk, gI_pn, gB_ps, gB_pc, gB_pi, gJ_ps, gJ_pc, gA_pI, gA_pB, gA_pJ, gI_pA, gI_pB, gI_pJ, gB_pI, gB_pA, gB_pJ, gJ_pI, gJ_pA, gJ_pB], by simp (disch := omega) only [gA_ps, gA_pe, gA_pc, gA_pi, gA_pn, gI_ps, gI_pc, gI_pk, gI_pn, gB_ps, gB_pc, gB_pi, gJ_ps, gJ_pc, gA_pI, gA_pB, gA_pJ, gI_pA, gI_pB, gI_pJ, gB_pI, gB_pA, gB_pJ, gJ_pI, gJ_pA, gJ_pB], fun i hi => ?_⟩
    rw [e1]
    rcases Nat.lt_or_ge i n with hlt | hge
    · obtain h4 := h3 i hlt
      simp (disch := omega) only [gA_ps, gA_pe, gA_pc, gA_pi, gA_pn, gI_ps, gI_pc, gI_pk, gI_pn, gB_ps, gB_pc, gB_pi, gJ_ps, gJ_pc, gA_pI, gA_pB, gA_pJ, gI_pA, gI_pB, gI_pJ, gB_pI, gB_pA, gB_pJ, gJ_pI, gJ_pA, gJ_pB, upT_s, upT_f, upT_i, Nat.add_zero]
      simpa only [Nat.add_zero] using h4
    · have e : i = n := by omega
      subst e
      simp (disch := omega) only [gA_ps, gA_pe, gA_pc, gA_pi, gA_pn, gI_ps, gI_pc, gI_pk, gI_pn, gB_ps, gB_pc, gB_pi, gJ_ps, gJ_pc, gA_pI, gA_pB, gA_pJ, gI_pA, gI_pB, gI_pJ, gB_pI, gB_pA, gB_pJ, gJ_pI, gJ_pA, gJ_pB, upT_s, upT_f, upT_i, Nat.add_zero, true_and, and_true]
      try omega
  · rw [e1]; exact ((((((((((Ch.rf 6 S).pA (c := 27) (n := 0) (j := n) _ (Or.inl rfl)).pA (c := 28) (n := 0) (j := n) _ (Or.inl rfl)).pA (c := 29) (n := 0) (j := n) _ (Or.inl rfl)).pI (c := 4) (n := 0) (j := 12) _ (Or.inl rfl)).pA (c := 66) (n := 0) (j := 4 * n) _ (Or.inl rfl)).pA (c := 66) (n := 0) (j := 4 * n + 1) _ (Or.inl rfl)).pA (c := 66) (n := 0) (j := 4 * n + 2) _ (Or.inl rfl)).pA (c := 66) (n := 0) (j := 4 * n + 3) _ (Or.inl rfl)).pI (c := 11) (n := 0) (j := 17) _ (Or.inl rfl))
theorem Q_take {S : St} {n nb : Nat} {Z B : Nat → Nat → Nat} (h : IvK S n nb Z) (hb : IvB S nb B) (p1 p2 p3 : Int32) :
    ∃ (r : Int32) (S1 S2 : St) (n2 : Nat) (Z2 : Nat → Nat → Nat), fX11_take S p1 p2 p3 = some (r, S1) ∧ fX12_take S1 p1 p2 p3 = some (r, S2) ∧ IvK S2 n2 nb Z2 ∧ Ch 7 S S2 ∧ gC S1 = gC S ∧ gC S2 = gC S := by
  have hne : ¬ (1 : Int32) = 0 := by decide
  have bad : fX11_take S p1 p2 p3 = some (-1, S) → fX12_take S p1 p2 p3 = some (-1, S) → ∃ (r : Int32) (S1 S2 : St) (n2 : Nat) (Z2 : Nat → Nat → Nat), fX11_take S p1 p2 p3 = some (r, S1) ∧ fX12_take S1 p1 p2 p3 = some (r, S2) ∧ IvK S2 n2 nb Z2 ∧ Ch 7 S S2 ∧ gC S1 = gC S ∧ gC S2 = gC S := fun a b => ⟨-1, S, S, n, Z, a, b, h, Ch.rf 7 S, rfl, rfl⟩
  rcases a_block p1 nb hb.1 with ⟨c1, m1⟩ | ⟨a1, rfl, u1, c1, m1⟩
  · exact bad (by simp only [fX11_take, c1 S hb.2.1, cal_s, if_neg hne]; rfl) (by simp only [fX12_take, m1 S hb.2.2.1, cal_s, if_neg hne]; rfl)
  rcases a_kin p2 with ⟨c2, m2⟩ | ⟨a2, rfl, u2, c2, m2⟩
  · exact bad (by simp only [fX11_take, c1 S hb.2.1, c2, cal_s, if_neg hne]; rfl) (by simp only [fX12_take, m1 S hb.2.2.1, m2, cal_s, if_neg hne]; rfl)
  rcases a_year p3 with ⟨c3, m3⟩ | ⟨a3, rfl, u3, c3, m3⟩
  · exact bad (by simp only [fX11_take, c1 S hb.2.1, c2, c3, cal_s, if_neg hne]; rfl) (by simp only [fX12_take, m1 S hb.2.2.1, m2, m3, cal_s, if_neg hne]; rfl)
  obtain ⟨h0, h1, h2, h3⟩ := h
  by_cases hn8 : n = 12
  · subst hn8
    exact ⟨-3, S, S, 12, Z, by simp only [fX11_take, c1 S hb.2.1, c2, c3, cal_s, if_neg hne, fX4_addTaking, h1]; rfl, by simp only [fX12_take, m1 S hb.2.2.1, m2, m3, cal_s, if_neg hne, h2]; rfl, ⟨h0, h1, h2, h3⟩, Ch.rf 7 S, rfl, rfl⟩
  obtain ⟨S1, e1⟩ : ∃ S1 : St, S1 = pI (pA (pA (pA S 30 0 n (nI a1)) 31 0 n (nI a2)) 32 0 n (nI a3)) 4 0 16 (nI (n + 1)) := ⟨_, rfl⟩
  have hc1 : fX11_take S (nI a1) (nI a2) (nI a3) = some (nI n, S1) := by
    rw [e1]
    simp only [fX11_take, c1 S hb.2.1, c2, c3, cal_s, if_neg hne]
    simp (disch := omega) only [fX4_addTaking, h1, nI_lit, nI_add, pk_mul, nI_subn, cl, ix_nI, s_lt_t, s_lt_f, s_le_t, s_le_f, s_eq_t, s_eq_f, gd_t, gd_p, bnd_e, cal_s, if_true, if_false, ite_true, ite_false, and_true, true_and, and_false, false_and, not_true, not_false_eq_true, gA_ps, gA_pe, gA_pc, gA_pi, gA_pn, gI_ps, gI_pc, gI_pk, gI_pn, gB_ps, gB_pc, gB_pi, gJ_ps, gJ_pc, gA_pI, gA_pB, gA_pJ, gI_pA, gI_pB, gI_pJ, gB_pI, gB_pA, gB_pJ, gJ_pI, gJ_pA, gJ_pB, Nat.add_sub_cancel]
  have g1 : gI S1 11 0 19 = nI n := by rw [e1]; simp (disch := omega) only [gA_ps, gA_pe, gA_pc, gA_pi, gA_pn, gI_ps, gI_pc, gI_pk, gI_pn, gB_ps, gB_pc, gB_pi, gJ_ps, gJ_pc, gA_pI, gA_pB, gA_pJ, gI_pA, gI_pB, gI_pJ, gB_pI, gB_pA, gB_pJ, gJ_pI, gJ_pA, gJ_pB]; exact h2
  have m1 := m1 S1 (by rw [e1]; simp (disch := omega) only [gA_ps, gA_pe, gA_pc, gA_pi, gA_pn, gI_ps, gI_pc, gI_pk, gI_pn, gB_ps, gB_pc, gB_pi, gJ_ps, gJ_pc, gA_pI, gA_pB, gA_pJ, gI_pA, gI_pB, gI_pJ, gB_pI, gB_pA, gB_pJ, gJ_pI, gJ_pA, gJ_pB]; exact hb.2.2.1)
  have hm : fX12_take S1 (nI a1) (nI a2) (nI a3) = some (nI n, pI (pA (pA (pA S1 67 0 (3 * n) (nI a1)) 67 0 (3 * n + 1) (nI a2)) 67 0 (3 * n + 2) (nI a3)) 11 0 19 (nI (n + 1))) := by
    simp only [fX12_take, m1, m2, m3, cal_s, if_neg hne]
    simp (disch := omega) only [g1, nI_lit, nI_add, pk_mul, nI_subn, cl, ix_nI, s_lt_t, s_lt_f, s_le_t, s_le_f, s_eq_t, s_eq_f, gd_t, gd_p, bnd_e, cal_s, if_true, if_false, ite_true, ite_false, and_true, true_and, and_false, false_and, not_true, not_false_eq_true, gA_ps, gA_pe, gA_pc, gA_pi, gA_pn, gI_ps, gI_pc, gI_pk, gI_pn, gB_ps, gB_pc, gB_pi, gJ_ps, gJ_pc, gA_pI, gA_pB, gA_pJ, gI_pA, gI_pB, gI_pJ, gB_pI, gB_pA, gB_pJ, gJ_pI, gJ_pA, gJ_pB, Nat.add_sub_cancel, Nat.add_assoc, Nat.reduceAdd]
  refine ⟨nI n, S1, pI (pA (pA (pA S1 67 0 (3 * n) (nI a1)) 67 0 (3 * n + 1) (nI a2)) 67 0 (3 * n + 2) (nI a3)) 11 0 19 (nI (n + 1)), n + 1, upT (upT (upT Z 0 n a1) 1 n a2) 2 n a3, hc1, hm, ?_, ?_, by rw [e1]; rfl, by rw [e1]; rfl⟩
  · refine ⟨by omega, by rw [e1]; simp (disch := omega) only [gA_ps, gA_pe, gA_pc, gA_pi, gA_pn, gI_ps, gI_pc, gI_pk, gI_pn, gB_ps, gB_pc, gB_pi, gJ_ps, gJ_pc, gA_pI, gA_pB, gA_pJ, gI_pA, gI_pB, gI_pJ, gB_pI, gB_pA, gB_pJ, gJ_pI, gJ_pA, gJ_pB], by simp (disch := omega) only [gA_ps, gA_pe, gA_pc, gA_pi, gA_pn, gI_ps, gI_pc, gI_pk, gI_pn, gB_ps, gB_pc, gB_pi, gJ_ps, gJ_pc, gA_pI, gA_pB, gA_pJ, gI_pA, gI_pB, gI_pJ, gB_pI, gB_pA, gB_pJ, gJ_pI, gJ_pA, gJ_pB], fun i hi => ?_⟩
    rw [e1]
    rcases Nat.lt_or_ge i n with hlt | hge
    · obtain h4 := h3 i hlt
      simp (disch := omega) only [gA_ps, gA_pe, gA_pc, gA_pi, gA_pn, gI_ps, gI_pc, gI_pk, gI_pn, gB_ps, gB_pc, gB_pi, gJ_ps, gJ_pc, gA_pI, gA_pB, gA_pJ, gI_pA, gI_pB, gI_pJ, gB_pI, gB_pA, gB_pJ, gJ_pI, gJ_pA, gJ_pB, upT_s, upT_f, upT_i, Nat.add_zero]
      simpa only [Nat.add_zero] using h4
    · have e : i = n := by omega
      subst e
      simp (disch := omega) only [gA_ps, gA_pe, gA_pc, gA_pi, gA_pn, gI_ps, gI_pc, gI_pk, gI_pn, gB_ps, gB_pc, gB_pi, gJ_ps, gJ_pc, gA_pI, gA_pB, gA_pJ, gI_pA, gI_pB, gI_pJ, gB_pI, gB_pA, gB_pJ, gJ_pI, gJ_pA, gJ_pB, upT_s, upT_f, upT_i, Nat.add_zero, true_and, and_true]
      try omega
  · rw [e1]; exact (((((((((Ch.rf 7 S).pA (c := 30) (n := 0) (j := n) _ (Or.inl rfl)).pA (c := 31) (n := 0) (j := n) _ (Or.inl rfl)).pA (c := 32) (n := 0) (j := n) _ (Or.inl rfl)).pI (c := 4) (n := 0) (j := 16) _ (Or.inl rfl)).pA (c := 67) (n := 0) (j := 3 * n) _ (Or.inl rfl)).pA (c := 67) (n := 0) (j := 3 * n + 1) _ (Or.inl rfl)).pA (c := 67) (n := 0) (j := 3 * n + 2) _ (Or.inl rfl)).pI (c := 11) (n := 0) (j := 19) _ (Or.inl rfl))
