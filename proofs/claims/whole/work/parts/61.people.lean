theorem isB_hb (x y : Int32) : isB (hb x y) = true := by
  rcases hb_01 x y with h | h <;> rw [h] <;> rfl
theorem has_m1 {S : St} {n k : Nat} (h : gI S 6 0 6 = nI n) (hn : n ≤ 30) (hk : k ≤ n) : fX7_has S (nI k - 1) = some (if k = 0 then 0 else 1) := by
  have hs : (nI n - 1).toInt = (n : Int) - 1 := sub1_toInt (by omega)
  have hs2 : (nI k - 1).toInt = (k : Int) - 1 := sub1_toInt (by omega)
  simp only [fX7_has, h]
  rw [within_s, hs, hs2, show (0 : Int32).toInt = 0 by decide]
  by_cases e : k = 0
  · rw [if_neg (by omega), if_pos e]; rfl
  · rw [if_pos (by omega), if_neg e]; rfl
theorem cl_m1 {k : Nat} (h : 1 ≤ k) (h2 : k < 2147483648) : nI k - 1 = nI (k - 1) := nI_subn (a := k) (b := 1) h
def inhv (kn : Nat → Nat) (a b : Nat) : Nat := (if a = 0 then 0 else kn (a - 1)) ||| (if b = 0 then 0 else kn (b - 1))
theorem inh_s {S : St} {n i a b : Nat} {kn : Nat → Nat} (h : gI S 6 0 6 = nI n) (hn : n ≤ 30) (hi : i < 30) (h36 : gA S 36 0 i = nI a - 1) (h37 : gA S 37 0 i = nI b - 1) (ha : a ≤ n) (hb : b ≤ n) (hka : a ≠ 0 → gA S 39 0 (a - 1) = nI (kn (a - 1))) (hkb : b ≠ 0 → gA S 39 0 (b - 1) = nI (kn (b - 1))) : fX7_inherited S (nI i) = some (nI (inhv kn a b)) := by
  have i1 := ix_nI hi (by decide)
  have hj : ∀ s : Nat, fX7_inherited_j32 S (nI b - 1) (nI s) = some (nI (s ||| (if b = 0 then 0 else kn (b - 1)))) := by
    intro s
    simp only [fX7_inherited_j32, has_m1 h hn hb, cal_s]
    by_cases e : b = 0
    · rw [if_pos e, if_pos rfl, if_pos e]; simp
    · rw [if_neg e, if_neg (by decide), if_neg e, cl_m1 (by omega) (by omega), ix_nI (show b - 1 < 30 by omega) (by decide), gd_t, cl (by omega), hkb e, fa_or]
  simp only [fX7_inherited, i1, gd_t, bnd_e, cl (show i < 2147483648 by omega), h36, h37, has_m1 h hn ha, cal_s]
  unfold inhv
  by_cases e : a = 0
  · rw [if_pos e, if_pos rfl, if_pos e]
    exact hj 0
  · rw [if_neg e, if_neg (by decide), if_neg e, cl_m1 (by omega) (by omega), ix_nI (show a - 1 < 30 by omega) (by decide), gd_t, cl (by omega), hka e]
    exact hj _
theorem lt1024 {a b : Nat} (ha : a < 1024) (hb : b < 1024) : a ||| b < 1024 := Nat.or_lt_two_pow (n := 10) ha hb
theorem inhv_lt {kn : Nat → Nat} {a b : Nat} (ha : a ≠ 0 → kn (a - 1) < 1024) (hb : b ≠ 0 → kn (b - 1) < 1024) : inhv kn a b < 1024 := by
  unfold inhv
  apply lt1024
  · by_cases e : a = 0
    · rw [if_pos e]; decide
    · rw [if_neg e]; exact ha e
  · by_cases e : b = 0
    · rw [if_pos e]; decide
    · rw [if_neg e]; exact hb e
/-- PERSON -/
theorem Q_person {S : St} {n : Nat} {P : Nat → Nat → Nat} (h : IvP S n P) (p1 p2 p3 : Int32) :
    ∃ (r : Int32) (S1 S2 : St) (n2 : Nat) (P2 : Nat → Nat → Nat), fX11_person S p1 p2 p3 = some (r, S1) ∧ fX12_person S1 p1 p2 p3 = some (r, S2) ∧ IvP S2 n2 P2 ∧ Ch 2 S S2 ∧ gC S1 = gC S ∧ gC S2 = gC S ∧ n ≤ n2 := by
  have hne : ¬ (1 : Int32) = 0 := by decide
  obtain ⟨h0, h1, h2, h3⟩ := id h
  -- the common end
  have fin : ∀ a b c : Nat, a ≤ 200 → b ≤ n → c ≤ n → ∃ (r : Int32) (S1 S2 : St) (n2 : Nat) (P2 : Nat → Nat → Nat), fX7_add S (nI a) (nI b - 1) (nI c - 1) = some (r, S1) ∧ fX12_person_j52 S1 (nI a) (nI b - 1) (nI c - 1) = some (r, S2) ∧ IvP S2 n2 P2 ∧ Ch 2 S S2 ∧ gC S1 = gC S ∧ gC S2 = gC S ∧ n ≤ n2 ∧ gI S1 11 0 6 = nI n := by
    intro a b c ha hb hc
    by_cases hn8 : n = 30
    · subst hn8
      exact ⟨-3, S, S, 30, P, by simp only [fX7_add, h1]; rfl, by simp only [fX12_person_j52, h2]; rfl, h, Ch.rf 2 S, rfl, rfl, Nat.le_refl _, h2⟩
    obtain ⟨x, ex⟩ : ∃ x : Int32, x = nI b - 1 := ⟨_, rfl⟩
    obtain ⟨y, ey⟩ : ∃ y : Int32, y = nI c - 1 := ⟨_, rfl⟩
    rw [← ex, ← ey]
    obtain ⟨S5, e5⟩ : ∃ S5 : St, S5 = pA (pA (pA (pA (pA S 34 0 n (nI a)) 35 0 n (nI 1000000)) 36 0 n x) 37 0 n y) 38 0 n (nI 0) := ⟨_, rfl⟩
    have hin : fX7_inherited S5 (nI n) = some (nI (inhv (P 5) b c)) := by
      refine inh_s (S := S5) (n := n) (by rw [e5]; simp (disch := omega) only [gA_ps, gA_pe, gA_pc, gA_pi, gA_pn, gI_ps, gI_pc, gI_pk, gI_pn, gB_ps, gB_pc, gB_pi, gJ_ps, gJ_pc, gA_pI, gA_pB, gA_pJ, gI_pA, gI_pB, gI_pJ, gB_pI, gB_pA, gB_pJ, gJ_pI, gJ_pA, gJ_pB]; exact h1) h0 (by omega) (by rw [e5, ← ex]; simp (disch := omega) only [gA_ps, gA_pe, gA_pc, gA_pi, gA_pn, gI_ps, gI_pc, gI_pk, gI_pn, gB_ps, gB_pc, gB_pi, gJ_ps, gJ_pc, gA_pI, gA_pB, gA_pJ, gI_pA, gI_pB, gI_pJ, gB_pI, gB_pA, gB_pJ, gJ_pI, gJ_pA, gJ_pB]) (by rw [e5, ← ey]; simp (disch := omega) only [gA_ps, gA_pe, gA_pc, gA_pi, gA_pn, gI_ps, gI_pc, gI_pk, gI_pn, gB_ps, gB_pc, gB_pi, gJ_ps, gJ_pc, gA_pI, gA_pB, gA_pJ, gI_pA, gI_pB, gI_pJ, gB_pI, gB_pA, gB_pJ, gJ_pI, gJ_pA, gJ_pB]) hb hc (fun e => ?_) (fun e => ?_)
      · rw [e5]; simp (disch := omega) only [gA_ps, gA_pe, gA_pc, gA_pi, gA_pn, gI_ps, gI_pc, gI_pk, gI_pn, gB_ps, gB_pc, gB_pi, gJ_ps, gJ_pc, gA_pI, gA_pB, gA_pJ, gI_pA, gI_pB, gI_pJ, gB_pI, gB_pA, gB_pJ, gJ_pI, gJ_pA, gJ_pB]; exact (h3 (b - 1) (by omega)).2.2.2.2.2.1
      · rw [e5]; simp (disch := omega) only [gA_ps, gA_pe, gA_pc, gA_pi, gA_pn, gI_ps, gI_pc, gI_pk, gI_pn, gB_ps, gB_pc, gB_pi, gJ_ps, gJ_pc, gA_pI, gA_pB, gA_pJ, gI_pA, gI_pB, gI_pJ, gB_pI, gB_pA, gB_pJ, gJ_pI, gJ_pA, gJ_pB]; exact (h3 (c - 1) (by omega)).2.2.2.2.2.1
    obtain ⟨S1, e1⟩ : ∃ S1 : St, S1 = pI (pA S5 39 0 n (nI (inhv (P 5) b c))) 6 0 6 (nI (n + 1)) := ⟨_, rfl⟩
    have g5 : gI S5 6 0 6 = nI n := by rw [e5]; simp (disch := omega) only [gA_ps, gA_pe, gA_pc, gA_pi, gA_pn, gI_ps, gI_pc, gI_pk, gI_pn, gB_ps, gB_pc, gB_pi, gJ_ps, gJ_pc, gA_pI, gA_pB, gA_pJ, gI_pA, gI_pB, gI_pJ, gB_pI, gB_pA, gB_pJ, gJ_pI, gJ_pA, gJ_pB]; exact h1
    have hc1 : fX7_add S (nI a) x y = some (nI n, S1) := by
      have hin2 : fX7_inherited (pA (pA (pA (pA (pA S 34 0 n (nI a)) 35 0 n (nI 1000000)) 36 0 n x) 37 0 n y) 38 0 n (nI 0)) (nI n) = some (nI (inhv (P 5) b c)) := by rw [← e5]; exact hin
      rw [e1, e5]
      simp (disch := omega) only [fX7_add, h1, nI_lit, nI_add, pk_mul, nI_subn, cl, ix_nI, s_lt_t, s_lt_f, s_le_t, s_le_f, s_eq_t, s_eq_f, gd_t, gd_p, bnd_e, cal_s, if_true, if_false, ite_true, ite_false, and_true, true_and, and_false, false_and, not_true, not_false_eq_true, gA_ps, gA_pe, gA_pc, gA_pi, gA_pn, gI_ps, gI_pc, gI_pk, gI_pn, gB_ps, gB_pc, gB_pi, gJ_ps, gJ_pc, gA_pI, gA_pB, gA_pJ, gI_pA, gI_pB, gI_pJ, gB_pI, gB_pA, gB_pJ, gJ_pI, gJ_pA, gJ_pB, hin2, Nat.add_sub_cancel]
    have g1 : gI S1 11 0 6 = nI n := by rw [e1, e5]; simp (disch := omega) only [gA_ps, gA_pe, gA_pc, gA_pi, gA_pn, gI_ps, gI_pc, gI_pk, gI_pn, gB_ps, gB_pc, gB_pi, gJ_ps, gJ_pc, gA_pI, gA_pB, gA_pJ, gI_pA, gI_pB, gI_pJ, gB_pI, gB_pA, gB_pJ, gJ_pI, gJ_pA, gJ_pB]; exact h2
    have hm : fX12_person_j52 S1 (nI a) x y = some (nI n, pI (pA (pA (pA (pA (pA S1 59 0 n (nI a)) 60 0 (2 * n) x) 60 0 (2 * n + 1) y) 61 0 n (nI 1000000)) 62 0 n (nI 0)) 11 0 6 (nI (n + 1))) := by
      simp (disch := omega) only [fX12_person_j52, g1, nI_lit, nI_add, pk_mul, nI_subn, cl, ix_nI, s_lt_t, s_lt_f, s_le_t, s_le_f, s_eq_t, s_eq_f, gd_t, gd_p, bnd_e, cal_s, if_true, if_false, ite_true, ite_false, and_true, true_and, and_false, false_and, not_true, not_false_eq_true, gA_ps, gA_pe, gA_pc, gA_pi, gA_pn, gI_ps, gI_pc, gI_pk, gI_pn, gB_ps, gB_pc, gB_pi, gJ_ps, gJ_pc, gA_pI, gA_pB, gA_pJ, gI_pA, gI_pB, gI_pJ, gB_pI, gB_pA, gB_pJ, gJ_pI, gJ_pA, gJ_pB, Nat.add_sub_cancel]
    refine ⟨nI n, S1, _, n + 1, upT (upT (upT (upT (upT (upT P 0 n a) 1 n 1000000) 2 n b) 3 n c) 4 n 0) 5 n (inhv (P 5) b c), hc1, hm, ?_, ?_, by rw [e1, e5]; rfl, by rw [e1, e5]; rfl, by omega, g1⟩
    · refine ⟨by omega, by rw [e1, e5]; simp (disch := omega) only [gA_ps, gA_pe, gA_pc, gA_pi, gA_pn, gI_ps, gI_pc, gI_pk, gI_pn, gB_ps, gB_pc, gB_pi, gJ_ps, gJ_pc, gA_pI, gA_pB, gA_pJ, gI_pA, gI_pB, gI_pJ, gB_pI, gB_pA, gB_pJ, gJ_pI, gJ_pA, gJ_pB], by simp (disch := omega) only [gA_ps, gA_pe, gA_pc, gA_pi, gA_pn, gI_ps, gI_pc, gI_pk, gI_pn, gB_ps, gB_pc, gB_pi, gJ_ps, gJ_pc, gA_pI, gA_pB, gA_pJ, gI_pA, gI_pB, gI_pJ, gB_pI, gB_pA, gB_pJ, gJ_pI, gJ_pA, gJ_pB], fun i hi => ?_⟩
      rw [e1, e5, ex, ey]
      rcases Nat.lt_or_ge i n with hlt | hge
      · obtain ⟨q0, q1, q2, q3, q4, q5, q6, q7, q8, q9, q10, x0, x1, x2, x3, x⟩ := h3 i hlt
        simp (disch := omega) only [gA_ps, gA_pe, gA_pc, gA_pi, gA_pn, gI_ps, gI_pc, gI_pk, gI_pn, gB_ps, gB_pc, gB_pi, gJ_ps, gJ_pc, gA_pI, gA_pB, gA_pJ, gI_pA, gI_pB, gI_pJ, gB_pI, gB_pA, gB_pJ, gJ_pI, gJ_pA, gJ_pB, upT_s, upT_f, upT_i]
        refine ⟨q0, q1, q2, q3, q4, q5, q6, q7, q8, q9, q10, x0, x1, x2, x3, x.1, x.2.1, ?_⟩
        exact x.2.2
      · have e : i = n := by omega
        subst e
        have hpl : ∀ k : Nat, k ≠ 0 → k ≤ i → P 5 (k - 1) < 1024 := fun k hk1 hk2 => (h3 (k - 1) (by omega)).2.2.2.2.2.2.2.2.2.2.2.2.2.2.2.2.1
        simp (disch := omega) only [gA_ps, gA_pe, gA_pc, gA_pi, gA_pn, gI_ps, gI_pc, gI_pk, gI_pn, gB_ps, gB_pc, gB_pi, gJ_ps, gJ_pc, gA_pI, gA_pB, gA_pJ, gI_pA, gI_pB, gI_pJ, gB_pI, gB_pA, gB_pJ, gJ_pI, gJ_pA, gJ_pB, upT_s, upT_f, upT_i, true_and, and_true]
        refine ⟨ha, by first | omega | exact Or.inr rfl | simp, hb, hc, by decide, inhv_lt (fun q => hpl b q hb) (fun q => hpl c q hc), ?_⟩
        rw [Nat.zero_or]
        rfl
    · rw [e1, e5]; repeat (first | exact Ch.rf _ _ | refine Ch.pI ?_ _ (Or.inl rfl) | refine Ch.pA ?_ _ (Or.inl rfl))
  have bad : fX11_person S p1 p2 p3 = some (-1, S) → fX12_person S p1 p2 p3 = some (-1, S) → ∃ (r : Int32) (S1 S2 : St) (n2 : Nat) (P2 : Nat → Nat → Nat), fX11_person S p1 p2 p3 = some (r, S1) ∧ fX12_person S1 p1 p2 p3 = some (r, S2) ∧ IvP S2 n2 P2 ∧ Ch 2 S S2 ∧ gC S1 = gC S ∧ gC S2 = gC S ∧ n ≤ n2 := fun a b => ⟨-1, S, S, n, P, a, b, h, Ch.rf 2 S, rfl, rfl, Nat.le_refl n⟩
  have hm1 : fX7_has S (-1) = some 0 := has_m1 (k := 0) h1 h0 (by omega)
  by_cases eo : p2 = -1 ∧ p3 = -1
  · obtain ⟨rfl, rfl⟩ := eo
    rcases a_year p1 with ⟨c1, m1⟩ | ⟨a1, rfl, u1, c1, m1⟩
    · refine bad ?_ ?_
      · simp only [fX11_person, fX11_person_j15, fX11_person_j48, fX11_person_j49, if_true, hm1, cal_s, c1]
      · simp only [fX12_person, fX12_person_j15, if_true, m1, cal_s]
    · obtain ⟨r, S1, S2, n2, P2, f1, f2, f3, f4, f5, f6, f7, f8⟩ := fin a1 0 0 u1 (by omega) (by omega)
      have f1 : fX7_add S (nI a1) (-1) (-1) = some (r, S1) := f1
      have f2 : fX12_person_j52 S1 (nI a1) (-1) (-1) = some (r, S2) := f2
      refine ⟨r, S1, S2, n2, P2, ?_, ?_, f3, f4, f5, f6, f7⟩
      · simp only [fX11_person, fX11_person_j15, fX11_person_j48, fX11_person_j49, fX11_person_j70, if_true, hm1, cal_s, c1, if_neg hne, f1]
      · simp only [fX12_person, fX12_person_j15, if_true, m1, cal_s, if_neg hne, f2]
  · have hcl : fX11_person S p1 p2 p3 = fX11_person_j15 S p1 p2 p3 0 := by
      unfold fX11_person fX11_person_j14
      by_cases e2 : p2 = -1
      · rw [if_pos e2]
        by_cases e3 : p3 = -1
        · exact absurd ⟨e2, e3⟩ eo
        · rw [if_neg e3]
      · rw [if_neg e2]
    have hml : ∀ T : St, fX12_person T p1 p2 p3 = fX12_person_j15 T p1 p2 p3 0 := by
      intro T
      unfold fX12_person fX12_person_j14
      by_cases e2 : p2 = -1
      · rw [if_pos e2]
        by_cases e3 : p3 = -1
        · exact absurd ⟨e2, e3⟩ eo
        · rw [if_neg e3]
      · rw [if_neg e2]
    rcases a_year p1 with ⟨c1, m1⟩ | ⟨a1, rfl, u1, c1, m1⟩
    · refine bad ?_ (by rw [hml]; simp only [fX12_person_j15, m1, cal_s, if_true])
      rw [hcl]
      simp only [fX11_person_j15, fX11_person_j48, fX11_person_j49, c1, cal_s, if_true]
      rcases a_person p2 n h0 with ⟨d2, -⟩ | ⟨a2, rfl, u2, d2, -⟩
      · simp only [d2 S h1, cal_s, if_true]
      · simp only [d2 S h1, cal_s, if_neg hne]
        rcases a_person p3 n h0 with ⟨d3, -⟩ | ⟨a3, rfl, u3, d3, -⟩
        · simp only [d3 S h1, cal_s, if_true]
        · simp only [d3 S h1, cal_s, if_neg hne, ite_self]
    rcases a_person p2 n h0 with ⟨c2, m2⟩ | ⟨a2, rfl, u2, c2, m2⟩
    · refine bad (by rw [hcl]; simp only [fX11_person_j15, fX11_person_j48, fX11_person_j49, c1, c2 S h1, cal_s, if_neg hne, if_true]) (by rw [hml]; simp only [fX12_person_j15, m1, m2 S h2, cal_s, if_neg hne, if_true])
    rcases a_person p3 n h0 with ⟨c3, m3⟩ | ⟨a3, rfl, u3, c3, m3⟩
    · refine bad (by rw [hcl]; simp only [fX11_person_j15, fX11_person_j48, fX11_person_j49, c1, c2 S h1, c3 S h1, cal_s, if_neg hne, if_true]) (by rw [hml]; simp only [fX12_person_j15, m1, m2 S h2, m3 S h2, cal_s, if_neg hne, if_true])
    by_cases e23 : nI a2 = nI a3
    · refine bad (by rw [hcl]; simp only [fX11_person_j15, fX11_person_j48, fX11_person_j49, c1, c2 S h1, c3 S h1, cal_s, if_neg hne, if_pos e23, if_true]) (by rw [hml]; simp only [fX12_person_j15, m1, m2 S h2, m3 S h2, cal_s, if_neg hne, if_pos e23, if_true])
    obtain ⟨r, S1, S2, n2, P2, f1, f2, f3, f4, f5, f6, f7, f8⟩ := fin a1 (a2 + 1) (a3 + 1) u1 (by omega) (by omega)
    rw [nI_pred, nI_pred] at f1 f2
    refine ⟨r, S1, S2, n2, P2, ?_, ?_, f3, f4, f5, f6, f7⟩
    · rw [hcl]
      simp only [fX11_person_j15, fX11_person_j49, fX11_person_j70, c1, c2 S h1, c3 S h1, cal_s, if_neg hne, if_neg e23, if_true, f1]
    · rw [hml]
      simp only [fX12_person_j15, m1, m2 S1 f8, m3 S1 f8, cal_s, if_neg hne, if_neg e23, if_true, f2]
