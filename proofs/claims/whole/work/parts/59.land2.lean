def hb (x y : Int32) : Int32 := if ((x >>> (y &&& 31)) &&& 1) = 1 then 1 else 0
theorem hb_c (S : St) (x y : Int32) : fX11_hasBit S x y = some (hb x y) := by
  unfold fX11_hasBit hb
  by_cases h : ((x >>> (y &&& 31)) &&& 1) = 1
  · rw [if_pos h, if_pos h]
  · rw [if_neg h, if_neg h]
theorem hb_m (S : St) (x y : Int32) : fX12_has S x y = some (hb x y) := hb_c S x y
theorem hb_01 (x y : Int32) : hb x y = 0 ∨ hb x y = 1 := by
  unfold hb
  by_cases h : ((x >>> (y &&& 31)) &&& 1) = 1
  · rw [if_pos h]; exact Or.inr rfl
  · rw [if_neg h]; exact Or.inl rfl
theorem hb_self : ∀ k : Fin 10, hb ((1 : Int32) <<< (nI k.val &&& 31)) (nI k.val) = 1 := by decide
theorem Q_holds {S : St} {n nb : Nat} {H B : Nat → Nat → Nat} (h : IvH S n nb H) (hb : IvB S nb B) (F : Nat) (hF : 1000 ≤ F) (p1 p2 p3 : Int32) : ∃ r, fX11_holds F S p1 p2 p3 = some r ∧ fX12_holds F S p1 p2 p3 = some r := by
  have hne : ¬ (1 : Int32) = 0 := by decide
  rcases a_block p1 nb hb.1 with ⟨c1, m1⟩ | ⟨a1, rfl, u1, c1, m1⟩
  · exact ⟨-1, by simp only [fX11_holds, c1 S hb.2.1, cal_s]; rfl, by simp only [fX12_holds, m1 S hb.2.2.1, cal_s]; rfl⟩
  rcases a_year p2 with ⟨c2, m2⟩ | ⟨a2, rfl, u2, c2, m2⟩
  · exact ⟨-1, by simp only [fX11_holds, c1 S hb.2.1, c2, cal_s, if_neg hne]; rfl, by simp only [fX12_holds, m1 S hb.2.2.1, m2, cal_s, if_neg hne]; rfl⟩
  rcases ar_n p3 0 1 (by decide) 0 1 0 1 (by decide) (by decide) (by decide) (by decide) with ⟨c3, m3⟩ | ⟨a3, rfl, -, u3, c3, m3⟩
  · exact ⟨-1, by simp only [fX11_holds, c1 S hb.2.1, c2, c3, cal_s, if_neg hne]; rfl, by simp only [fX12_holds, m1 S hb.2.2.1, m2, m3, cal_s, if_neg hne]; rfl⟩
  have hnb := hb.1
  simp only [fX11_holds, fX12_holds, c1 S hb.2.1, c2, c3, m1 S hb.2.2.1, m2, m3, cal_s, if_neg hne]
  rcases (show a3 = 0 ∨ a3 = 1 by omega) with rfl | rfl
  · obtain ⟨x, hx, r1, r2⟩ := Q_owner h hnb F a1 a2 hF (by omega) u2
    have r2 : fX12_heldBy F S (nI a1) (nI a2) (nI 0) = some x := r2
    rw [if_neg (show ¬ (nI 0 = 1) by decide), r1, r2]
    simp only [cal_s]
    by_cases hx0 : 0 ≤ x
    · exact ⟨x, by rw [if_pos hx0], by rw [if_pos hx0]⟩
    · exact ⟨-4, by rw [if_neg hx0], by rw [if_neg hx0]⟩
  · obtain ⟨k, hk, r1, r2⟩ := Q_users h hnb F a1 a2 hF (by omega) u2
    have r2 : fX12_heldBy F S (nI a1) (nI a2) (nI 1) = some (nI k) := r2
    rw [if_pos (show nI 1 = 1 from rfl), r1, r2]
    simp only [cal_s]
    have h0 : (0 : Int32) ≤ nI k := c_le (a := 0) (by omega) (by omega)
    exact ⟨nI k, rfl, by rw [if_pos h0]⟩
theorem Q_could {S : St} {n nb nd : Nat} {H D : Nat → Nat → Nat} (h : IvH S n nb H) (hnb : nb ≤ 12) (hd : IvD S nd nb D) (F : Nat) (hF : 1000 ≤ F) (p1 : Int32) : ∃ r, fX11_could F S p1 = some r ∧ fX12_could F S p1 = some r := by
  have hne : ¬ (1 : Int32) = 0 := by decide
  obtain ⟨d0, d1, d2, d3⟩ := hd
  simp only [fX11_could, fX12_could, d1, d2]
  rcases ar_c p1 nd (by omega) with ⟨c1, m1⟩ | ⟨a1, rfl, u1, c1, m1⟩
  · exact ⟨-1, by simp only [c1, cal_s]; rfl, by simp only [m1, cal_s]; rfl⟩
  simp only [c1, m1, cal_s, if_neg hne]
  obtain ⟨q0, q1, q2, q3, q4, q5, x0, x1, x2⟩ := d3 a1 u1
  obtain ⟨x, hx, r1, r2⟩ := Q_owner h hnb F (D 0 a1) (D 2 a1) hF (by omega) x2
  obtain ⟨k, hk, r3, r4⟩ := Q_users h hnb F (D 0 a1) (D 2 a1) hF (by omega) x2
  have i1 := ix_nI (show a1 < 20 by omega) (by decide)
  have i2 := ix_nI (show 4 * a1 < 80 by omega) (by decide)
  have i3 := ix_nI (show 4 * a1 + 1 < 80 by omega) (by decide)
  have i4 := ix_nI (show 4 * a1 + 3 < 80 by omega) (by decide)
  have e4 : (4 : Int32) * nI a1 = nI (4 * a1) := pk_mul 4 a1
  have e5 : nI (4 * a1) + 1 = nI (4 * a1 + 1) := nI_add _ 1
  have e6 : nI (4 * a1) + 3 = nI (4 * a1 + 3) := nI_add _ 3
  simp only [fX4_rightOfSeller, bnd_e, e4, e5, e6, i1, i2, i3, i4, gd_t, cl (show a1 < 2147483648 by omega), cl (show 4 * a1 < 2147483648 by omega), cl (show 4 * a1 + 1 < 2147483648 by omega), cl (show 4 * a1 + 3 < 2147483648 by omega), q0, q1, q2, q3, q4, q5, r1, r2, r3, r4, cal_s]
  by_cases e : x = nI (D 1 a1)
  · rw [if_pos e, if_pos e]
    simp only [fX4_rightOfSeller_j49, fX12_could_j59, e6, i2, i4, gd_t, cl (show 4 * a1 < 2147483648 by omega), cl (show 4 * a1 + 3 < 2147483648 by omega), q3, q5, r4, cal_s, if_neg hne]
    by_cases e2 : nI k &&& ((1 : Int32) <<< (nI (D 1 a1) &&& 31) ^^^ -1) = 0
    · exact ⟨2, by rw [if_pos e2]; rfl, by rw [if_pos e2]⟩
    · exact ⟨1, by rw [if_neg e2]; rfl, by rw [if_neg e2]; rfl⟩
  · rw [if_neg e, if_neg e]
    simp only [fX4_rightOfSeller_j49, fX12_could_j59, e6, i2, i4, gd_t, cl (show 4 * a1 < 2147483648 by omega), cl (show 4 * a1 + 3 < 2147483648 by omega), q3, q5, r4, cal_s, if_true, fX4_rightOfSeller_j68, fX12_could_j102, hb_c, hb_m]
    rcases hb_01 (nI k) (nI (D 1 a1)) with e3 | e3
    · exact ⟨0, by rw [e3]; rfl, by rw [e3]; rfl⟩
    · exact ⟨1, by rw [e3]; rfl, by rw [e3]; rfl⟩
theorem Q_wrongedBy {S : St} {n nb nk : Nat} {H K : Nat → Nat → Nat} (h : IvH S n nb H) (hnb : nb ≤ 12) (hk : IvK S nk nb K) (F : Nat) (hF : 1000 ≤ F) (a1 : Nat) (u1 : a1 < nk) : ∃ r, fX4_wrongedBy F S (nI a1) = some r ∧ fX12_wrongedBy F S (nI a1) = some r := by
  obtain ⟨d0, d1, d2, d3⟩ := hk
  obtain ⟨q0, q1, q2, q3, q4, q5, x0, x1, x2⟩ := d3 a1 u1
  obtain ⟨x, hx, r1, r2⟩ := Q_owner h hnb F (K 0 a1) (K 2 a1) hF (by omega) x2
  obtain ⟨k, hk, r3, r4⟩ := Q_users h hnb F (K 0 a1) (K 2 a1) hF (by omega) x2
  have i1 := ix_nI (show a1 < 12 by omega) (by decide)
  have i2 := ix_nI (show 3 * a1 < 36 by omega) (by decide)
  have i3 := ix_nI (show 3 * a1 + 1 < 36 by omega) (by decide)
  have i4 := ix_nI (show 3 * a1 + 2 < 36 by omega) (by decide)
  have e4 : (3 : Int32) * nI a1 = nI (3 * a1) := pk_mul 3 a1
  have e5 : nI (3 * a1) + 1 = nI (3 * a1 + 1) := nI_add _ 1
  have e6 : nI (3 * a1) + 2 = nI (3 * a1 + 2) := nI_add _ 2
  simp only [fX4_wrongedBy, fX12_wrongedBy, fX4_wrongedBy_j41, fX12_wrongedBy_j49, bnd_e, e4, e5, e6, i1, i2, i3, i4, gd_t, cl (show a1 < 2147483648 by omega), cl (show 3 * a1 < 2147483648 by omega), cl (show 3 * a1 + 1 < 2147483648 by omega), cl (show 3 * a1 + 2 < 2147483648 by omega), q0, q1, q2, q3, q4, q5, r1, r2, r3, r4, cal_s]
  by_cases e : 0 ≤ x
  · exact ⟨_, by rw [if_pos e], by rw [if_pos e]⟩
  · exact ⟨_, by rw [if_neg e], by rw [if_neg e]⟩
theorem Q_wronged {S : St} {n nb nk : Nat} {H K : Nat → Nat → Nat} (h : IvH S n nb H) (hnb : nb ≤ 12) (hk : IvK S nk nb K) (F : Nat) (hF : 1000 ≤ F) (p1 : Int32) : ∃ r, fX11_wronged F S p1 = some r ∧ fX12_wronged F S p1 = some r := by
  have hne : ¬ (1 : Int32) = 0 := by decide
  obtain ⟨d0, d1, d2, d3⟩ := id hk
  simp only [fX11_wronged, fX12_wronged, d1, d2]
  rcases ar_c p1 nk (by omega) with ⟨c1, m1⟩ | ⟨a1, rfl, u1, c1, m1⟩
  · exact ⟨-1, by simp only [c1, cal_s]; rfl, by simp only [m1, cal_s]; rfl⟩
  simp only [c1, m1, cal_s, if_neg hne]
  obtain ⟨r, r1, r2⟩ := Q_wrongedBy h hnb hk F hF a1 u1
  exact ⟨r, by rw [r1]; rfl, by rw [r2]; rfl⟩
theorem L_wall {S : St} {n nb nk : Nat} {H K : Nat → Nat → Nat} (h : IvH S n nb H) (hnb : nb ≤ 12) (hk : IvK S nk nb K) (F : Nat) (hF : 1000 ≤ F) (b : Nat) (hb : b < 12) (x2 x3 x4 x5 : Int32) : ∀ (m i : Nat) (x : Int32), i ≤ nk → nk < i + m → ∃ r, fX4_wrongedByAll_L4 F S (nI b) m x (nI i) = some r ∧ ∀ kc : Int32 → Option Int32, fX12_left_L57 F S x2 x3 x4 x5 (nI b) kc m x (nI i) = kc r := by
  obtain ⟨d0, d1, d2, d3⟩ := id hk
  intro m
  induction m with
  | zero => intro i x q1 q2; omega
  | succ m ih =>
    intro i x q1 q2
    simp only [fX4_wrongedByAll_L4, fX12_left_L57, fX4_wrongedByAll_b4, fX12_left_b57, d1, d2]
    by_cases e : i = nk
    · subst e
      have hle := c_le (Nat.le_refl i) (show i < 2147483648 by omega)
      exact ⟨x, by rw [if_pos hle], fun kc => by rw [if_pos hle]⟩
    · obtain ⟨q0, q1', q2', q3, q4, q5, y0, y1, y2⟩ := d3 i (by omega)
      have hle := c_nle (show i < nk by omega) (by omega)
      have e4 : (3 : Int32) * nI i = nI (3 * i) := pk_mul 3 i
      have i1 := ix_nI (show i < 12 by omega) (by decide)
      have i2 := ix_nI (show 3 * i < 36 by omega) (by decide)
      simp only [if_neg hle, i1, e4, i2, gd_t, cl (show i < 2147483648 by omega), cl (show 3 * i < 2147483648 by omega), q0, q3]
      by_cases e1 : K 0 i = b
      · obtain ⟨w, w1, w2⟩ := Q_wrongedBy h hnb hk F hF i (by omega)
        simp only [if_pos (show nI (K 0 i) = nI b by rw [e1]), w1, w2, cal_s, bnd_e, nI_a1]
        exact ih (i + 1) _ (by omega) (by omega)
      · have hn := c_ne e1 (by omega) (by omega)
        simp only [if_neg hn, bnd_e, nI_a1, Int32.or_zero]
        exact ih (i + 1) _ (by omega) (by omega)
theorem L_left {S : St} {n nb nk : Nat} {H K B : Nat → Nat → Nat} (h : IvH S n nb H) (hbk : IvB S nb B) (hk : IvK S nk nb K) (F : Nat) (hF : 1000 ≤ F) (kin yr : Nat) (hkin : kin < 10) (hyr : yr ≤ 200) (bk : Int32) : ∀ (m i : Nat) (x : Int32), i ≤ nb → nb < i + m → ∃ r, fX4_worthLeft_L6 F S (nI kin) (nI yr) bk m x (nI i) = some r ∧ fX12_left_L42 F S (nI yr) bk (nI kin) m x (nI i) = some r := by
  obtain ⟨b0, b1, b2, b3, b4⟩ := id hbk
  intro m
  induction m with
  | zero => intro i x q1 q2; omega
  | succ m ih =>
    intro i x q1 q2
    simp only [fX4_worthLeft_L6, fX12_left_L42, fX4_worthLeft_b6, fX12_left_b42, b1, b2]
    by_cases e : i = nb
    · subst e
      have hle := c_le (Nat.le_refl i) (show i < 2147483648 by omega)
      exact ⟨x, by rw [if_pos hle], by rw [if_pos hle]⟩
    · have hle := c_nle (show i < nb by omega) (by omega)
      rw [if_neg hle, if_neg hle]
      obtain ⟨y0, y1, -⟩ := b3 i (by omega)
      obtain ⟨w, w1, w2⟩ := L_wall h b0 hk F hF i (by omega) (nI yr) bk (nI kin) x F 0 0 (by omega) (by have := hk.1; omega)
      have w1 : fX4_wrongedByAll F S (nI i) = some w := w1
      have w2 : ∀ kc : Int32 → Option Int32, fX12_left_L57 F S (nI yr) bk (nI kin) x (nI i) kc F 0 0 = kc w := w2
      rw [w2, w1]
      obtain ⟨ow, -, o1, o2⟩ := Q_owner h b0 F i yr hF (by omega) hyr
      have i1 := ix_nI (show i < 12 by omega) (by decide)
      obtain ⟨g1, g1a, g1b⟩ := ih (i + 1) x (by omega) (by omega)
      obtain ⟨g2, g2a, g2b⟩ := ih (i + 1) (x + nI (B 0 i)) (by omega) (by omega)
      have hne : ¬ (1 : Int32) = 0 := by decide
      simp only [cal_s, hb_c, hb_m, o1, o2, fX4_worthLeft_j49, fX12_left_j139, fX12_left_j135, fX12_left_j140, if_true, if_neg hne, bnd_e, i1, gd_t, cl (show i < 2147483648 by omega), y0, y1, nI_a1, Int32.add_zero, g1a, g1b, g2a, g2b]
      by_cases eb : bk = 0
      · simp only [if_pos eb]
        rcases hb_01 w (nI kin) with e3 | e3
        · simp only [e3, if_true]; exact ⟨g1, rfl, rfl⟩
        · simp only [e3, if_neg hne]
          by_cases eo : 0 ≤ ow
          · simp only [if_pos eo]; exact ⟨g1, rfl, rfl⟩
          · simp only [if_neg eo]; exact ⟨g2, rfl, rfl⟩
      · simp only [if_neg eb]
        by_cases ew : w = (1 : Int32) <<< (nI kin &&& 31)
        · have e3 : hb w (nI kin) = 1 := by rw [ew]; exact hb_self ⟨kin, hkin⟩
          simp only [if_pos ew, e3, if_neg hne]
          by_cases eo : 0 ≤ ow
          · simp only [if_pos eo]; exact ⟨g1, rfl, rfl⟩
          · simp only [if_neg eo]; exact ⟨g2, rfl, rfl⟩
        · simp only [if_neg ew, if_true]
          refine ⟨g1, rfl, ?_⟩
          rcases hb_01 w (nI kin) with e3 | e3
          · simp only [e3, if_true]
          · simp only [e3, if_neg hne]
            by_cases eo : 0 ≤ ow
            · simp only [if_pos eo]
            · simp only [if_neg eo]
theorem Q_left {S : St} {n nb nk nc np : Nat} {H K B C : Nat → Nat → Nat} (h : IvH S n nb H) (hbk : IvB S nb B) (hk : IvK S nk nb K) (hc : IvC S nc np C) (F : Nat) (hF : 1000 ≤ F) (p1 p2 p3 : Int32) : ∃ r, fX11_left F S p1 p2 p3 = some r ∧ fX12_left F S p1 p2 p3 = some r := by
  have hne : ¬ (1 : Int32) = 0 := by decide
  obtain ⟨d0, d1, d2, d3⟩ := id hc
  simp only [fX11_left, fX12_left, d1, d2]
  rcases ar_c p1 nc (by omega) with ⟨c1, m1⟩ | ⟨a1, rfl, u1, c1, m1⟩
  · exact ⟨-1, by simp only [c1, cal_s]; rfl, by simp only [m1, cal_s]; rfl⟩
  rcases a_year p2 with ⟨c2, m2⟩ | ⟨a2, rfl, u2, c2, m2⟩
  · exact ⟨-1, by simp only [c1, c2, cal_s, if_neg hne]; rfl, by simp only [m1, m2, cal_s, if_neg hne]; rfl⟩
  obtain ⟨q0, q1, q2, q3, q4, q5, q6, q7, q8, q9, q10, q11, x0, -⟩ := d3 a1 u1
  have e4 : (6 : Int32) * nI a1 = nI (6 * a1) := pk_mul 6 a1
  have i1 := ix_nI (show a1 < 9 by omega) (by decide)
  have i2 := ix_nI (show 6 * a1 < 54 by omega) (by decide)
  rw [Nat.add_zero] at q6
  obtain ⟨r, r1, r2⟩ := L_left h hbk hk F hF (C 0 a1) a2 x0 u2 p3 F 0 0 (by omega) (by have := hbk.1; omega)
  have r1 : fX4_worthLeft F S (nI (C 0 a1)) (nI a2) p3 = some r := r1
  have r2 : fX12_left_L42 F S (nI a2) p3 (nI (C 0 a1)) F 0 0 = some r := r2
  simp only [c1, c2, m1, m2, cal_s, if_neg hne, e4, i1, i2, gd_t, bnd_e, cl (show a1 < 2147483648 by omega), cl (show 6 * a1 < 2147483648 by omega), q0, q6, r1, r2]
  exact ⟨r, rfl, rfl⟩
/-! TWICE -/
theorem T_skip {S : St} {nd nb : Nat} {D : Nat → Nat → Nat} (hd : IvD S nd nb D) (hnb : nb ≤ 12) (F b i : Nat) (hb : b < 1000) (hi : i < nd) (hn : D 0 i ≠ b) (k79 : Int32 → Option Int32) (k92 : Option Int32) : ∀ m j, j ≤ nd → nd < j + m → fX12_twice_L24 F S (nI b) (nI i) k79 k92 m (nI j) = k92 := by
  obtain ⟨d0, d1, d2, d3⟩ := hd
  intro m
  induction m with
  | zero => intro j q1 q2; omega
  | succ m ih =>
    intro j q1 q2
    simp only [fX12_twice_L24, fX12_twice_b24, d2]
    by_cases e : j = nd
    · subst e; rw [if_pos (c_le (Nat.le_refl j) (by omega))]
    · obtain ⟨q0, q1', q2', q3, q4, q5, y0, y1, y2⟩ := d3 i hi
      rw [if_neg (c_nle (show j < nd by omega) (by omega))]
      simp (disch := omega) only [nI_lit 4, pk_mul, cl, ix_nI, gd_t, q3, s_eq_f, if_false, nI_a1]
      exact ih (j + 1) (by omega) (by omega)
theorem T_in {S : St} {nd nb : Nat} {D : Nat → Nat → Nat} (hd : IvD S nd nb D) (hnb : nb ≤ 12) (F b i : Nat) (hb : b < 1000) (hi : i < nd) (hn : D 0 i = b) (kc : Int32 → Int32 → Option Int32) : ∀ m j, i < j → j ≤ nd → nd < j + m → (∃ j', j' < nd ∧ fX4_firstSoldTwice_L4 F S (nI b) kc m (nI i) (nI j) = kc (nI i) (nI j') ∧ ∀ k79 k92, fX12_twice_L24 F S (nI b) (nI i) k79 k92 m (nI j) = k79 (nI j')) ∨ ((∀ j', j ≤ j' → j' < nd → D 0 j' = b → D 1 j' = D 1 i) ∧ fX4_firstSoldTwice_L4 F S (nI b) kc m (nI i) (nI j) = some (-4) ∧ ∀ k79 k92, fX12_twice_L24 F S (nI b) (nI i) k79 k92 m (nI j) = k92) := by
  obtain ⟨d0, d1, d2, d3⟩ := hd
  intro m
  induction m with
  | zero => intro j q0 q1 q2; omega
  | succ m ih =>
    intro j hij q1 q2
    simp only [fX12_twice_L24, fX12_twice_b24, fX4_firstSoldTwice_L4, fX4_firstSoldTwice_b4, d1, d2]
    by_cases e : j = nd
    · subst e
      right
      have hle := c_le (Nat.le_refl j) (show j < 2147483648 by omega)
      exact ⟨fun j' h1 h2 => by omega, by rw [if_pos hle], fun _ _ => by rw [if_pos hle]⟩
    · obtain ⟨q0, q1', q2', q3, q4, q5, y0, y1, y2⟩ := d3 i hi
      obtain ⟨z0, z1, z2, z3, z4, z5, w0, w1, w2⟩ := d3 j (by omega)
      have hle := c_nle (show j < nd by omega) (show nd < 2147483648 by omega)
      have h0 : (0 : Int32) ≤ nI i := c_le (a := 0) (by omega) (by omega)
      have e4i : (4 : Int32) * nI i = nI (4 * i) := pk_mul 4 i
      have e4j : (4 : Int32) * nI j = nI (4 * j) := pk_mul 4 j
      simp (disch := omega) only [if_neg hle, if_pos h0, e4i, e4j, nI_a1, cl, ix_nI, gd_t, q0, q1', q3, q4, z0, z1, z3, z4]
      simp only [if_pos (show nI (D 0 i) = nI b by rw [hn])]
      by_cases eb : D 0 j = b
      · have hbj : nI (D 0 j) = nI b := by rw [eb]
        simp only [if_pos hbj]
        by_cases ek : D 1 j = D 1 i
        · have h1 : nI (D 1 j) = nI (D 1 i) := by rw [ek]
          simp only [if_pos h1, if_pos h1.symm]
          rcases ih (j + 1) (by omega) (by omega) (by omega) with h | ⟨h1, h2, h3⟩
          · exact Or.inl h
          · right
            refine ⟨fun j' a1 a2 a3 => ?_, h2, h3⟩
            rcases Nat.lt_or_ge j j' with q | q
            · exact h1 j' q a2 a3
            · have : j' = j := by omega
              rw [this]; exact ek
        · have h1 : ¬ nI (D 1 j) = nI (D 1 i) := c_ne ek (by omega) (by omega)
          have h2 : ¬ nI (D 1 i) = nI (D 1 j) := fun q => h1 q.symm
          simp only [if_neg h1, if_neg h2]
          exact Or.inl ⟨j, by omega, rfl, fun _ _ => rfl⟩
      · have hbj : ¬ nI (D 0 j) = nI b := c_ne eb (by omega) (by omega)
        simp only [if_neg hbj]
        rcases ih (j + 1) (by omega) (by omega) (by omega) with h | ⟨h1, h2, h3⟩
        · exact Or.inl h
        · right
          refine ⟨fun j' a1 a2 a3 => ?_, h2, h3⟩
          rcases Nat.lt_or_ge j j' with q | q
          · exact h1 j' q a2 a3
          · have : j' = j := by omega
            rw [this] at a3; exact absurd a3 eb
theorem T_same {S : St} {nd nb : Nat} {D : Nat → Nat → Nat} (hd : IvD S nd nb D) (hnb : nb ≤ 12) (F b i : Nat) (hb : b < 1000) (hi : i < nd) (hn : D 0 i = b) (hall : ∀ j', i + 1 ≤ j' → j' < nd → D 0 j' = b → D 1 j' = D 1 i) : ∀ m j, i < j → j ≤ nd → nd < j + m → ∀ k79 k92, fX12_twice_L24 F S (nI b) (nI i) k79 k92 m (nI j) = k92 := by
  obtain ⟨d0, d1, d2, d3⟩ := hd
  intro m
  induction m with
  | zero => intro j q0 q1 q2; omega
  | succ m ih =>
    intro j hij q1 q2 k79 k92
    simp only [fX12_twice_L24, fX12_twice_b24, d2]
    by_cases e : j = nd
    · subst e; rw [if_pos (c_le (Nat.le_refl j) (by omega))]
    · obtain ⟨q0, q1', q2', q3, q4, q5, y0, y1, y2⟩ := d3 i hi
      obtain ⟨z0, z1, z2, z3, z4, z5, w0, w1, w2⟩ := d3 j (by omega)
      have e4i : (4 : Int32) * nI i = nI (4 * i) := pk_mul 4 i
      have e4j : (4 : Int32) * nI j = nI (4 * j) := pk_mul 4 j
      simp (disch := omega) only [if_neg (c_nle (show j < nd by omega) (show nd < 2147483648 by omega)), e4i, e4j, nI_a1, cl, ix_nI, gd_t, q3, q4, z3, z4]
      rw [if_pos (show nI (D 0 i) = nI b by rw [hn])]
      by_cases eb : D 0 j = b
      · rw [if_pos (show nI (D 0 j) = nI b by rw [eb]), if_pos (show nI (D 1 i) = nI (D 1 j) by rw [hall j (by omega) (by omega) eb])]
        exact ih (j + 1) (by omega) (by omega) (by omega) k79 k92
      · rw [if_neg (c_ne eb (by omega) (by omega))]
        exact ih (j + 1) (by omega) (by omega) (by omega) k79 k92
theorem T_det {S : St} {nd nb : Nat} {D : Nat → Nat → Nat} (hd : IvD S nd nb D) (hnb : nb ≤ 12) (F b i : Nat) (hb : b < 1000) (hi : i < nd) (hn : D 0 i = b) : ∀ m m' j, i < j → j ≤ nd → nd < j + m → nd < j + m' → ∀ {j1 j2 : Nat}, j1 < nd → j2 < nd → (∀ k79 k92, fX12_twice_L24 F S (nI b) (nI i) k79 k92 m (nI j) = k79 (nI j1)) → (∀ k79 k92, fX12_twice_L24 F S (nI b) (nI i) k79 k92 m' (nI j) = k79 (nI j2)) → j1 = j2 := by
  obtain ⟨d0, d1, d2, d3⟩ := hd
  intro m
  induction m with
  | zero => intro m' j q0 q1 q2; omega
  | succ m ih =>
    intro m' j hij q1 q2 q2' j1 j2 hj1 hj2 h1 h2
    cases m' with
    | zero => omega
    | succ m' =>
    simp only [fX12_twice_L24, fX12_twice_b24, d2] at h1 h2
    by_cases e : j = nd
    · subst e
      have := h1 (fun _ => none) (some 7)
      rw [if_pos (c_le (Nat.le_refl j) (by omega))] at this
      cases this
    · obtain ⟨q0, q1', q2', q3, q4, q5, y0, y1, y2⟩ := d3 i hi
      obtain ⟨z0, z1, z2, z3, z4, z5, w0, w1, w2⟩ := d3 j (by omega)
      have e4i : (4 : Int32) * nI i = nI (4 * i) := pk_mul 4 i
      have e4j : (4 : Int32) * nI j = nI (4 * j) := pk_mul 4 j
      simp (disch := omega) only [if_neg (c_nle (show j < nd by omega) (show nd < 2147483648 by omega)), e4i, e4j, nI_a1, cl, ix_nI, gd_t, q3, q4, z3, z4, if_pos (show nI (D 0 i) = nI b by rw [hn])] at h1 h2
      by_cases eb : D 0 j = b
      · simp only [if_pos (show nI (D 0 j) = nI b by rw [eb])] at h1 h2
        by_cases ek : D 1 i = D 1 j
        · simp only [if_pos (show nI (D 1 i) = nI (D 1 j) by rw [ek])] at h1 h2
          exact ih m' (j + 1) (by omega) (by omega) (by omega) (by omega) hj1 hj2 h1 h2
        · simp only [if_neg (c_ne ek (show D 1 i < 2147483648 by omega) (show D 1 j < 2147483648 by omega))] at h1 h2
          have a := h1 (fun x => some x) none
          have b2 := h2 (fun x => some x) none
          rw [a] at b2
          exact (nI_eq (by omega) (by omega)).mp (Option.some.inj b2)
      · simp only [if_neg (c_ne eb (show D 0 j < 2147483648 by omega) (show b < 2147483648 by omega))] at h1 h2
        exact ih m' (j + 1) (by omega) (by omega) (by omega) (by omega) hj1 hj2 h1 h2
theorem T_rest {S : St} {nd nb : Nat} {D : Nat → Nat → Nat} (hd : IvD S nd nb D) (hnb : nb ≤ 12) (F b c : Nat) (hF : 1000 ≤ F) (hb : b < 1000) (k : Int32 → Int32 → Option Int32) : ∀ m i, i ≤ nd → nd < i + m → (∀ j, i ≤ j → j < nd → D 0 j = b → D 1 j = c) → fX12_twice_L12 F S (nI b) k m (nI i) = some (-4) := by
  obtain ⟨d0, d1, d2, d3⟩ := id hd
  intro m
  induction m with
  | zero => intro j q0 q1 q2; omega
  | succ m ih =>
    intro i q1 q2 q3
    simp only [fX12_twice_L12, fX12_twice_b12, d2, bnd_e, nI_a1]
    by_cases e : i = nd
    · subst e; rw [if_pos (c_le (Nat.le_refl i) (by omega))]
    · rw [if_neg (c_nle (show i < nd by omega) (by omega))]
      by_cases eb : D 0 i = b
      · rcases T_in hd hnb F b i hb (by omega) eb (fun _ _ => none) F (i + 1) (by omega) (by omega) (by omega) with ⟨j', h1, h2, h3⟩ | ⟨h1, h2, h3⟩
        · exfalso
          have := T_same hd hnb F b i hb (by omega) eb (fun j a1 a2 a3 => by rw [q3 j (by omega) a2 a3, q3 i (by omega) (by omega) eb]) F (i + 1) (by omega) (by omega) (by omega) (fun _ => none) (some 7)
          rw [h3] at this
          cases this
        · rw [h3]
          exact ih (i + 1) (by omega) (by omega) (fun j a1 a2 a3 => q3 j (by omega) a2 a3)
      · rw [T_skip hd hnb F b i hb (by omega) eb _ _ F (i + 1) (by omega) (by omega)]
        exact ih (i + 1) (by omega) (by omega) (fun j a1 a2 a3 => q3 j (by omega) a2 a3)
theorem T_one {S : St} {nd nb : Nat} {D : Nat → Nat → Nat} (hd : IvD S nd nb D) (hnb : nb ≤ 12) (F b : Nat) (hF : 1000 ≤ F) (hb : b < 1000) (k : Int32 → Int32 → Option Int32) (hk : ∀ x y, ∃ r, k x y = some r) : ∀ m m' i, i ≤ nd → nd < i + m → nd < i + m' → (∀ j, j < i → D 0 j ≠ b) → ∃ r, fX4_firstSoldTwice_L4 F S (nI b) k m (-1) (nI i) = some r ∧ fX12_twice_L12 F S (nI b) k m' (nI i) = some r := by
  obtain ⟨d0, d1, d2, d3⟩ := id hd
  intro m
  induction m with
  | zero => intro m' i q0 q1 q2; omega
  | succ m ih =>
    intro m' i q1 q2 q2' q3
    cases m' with
    | zero => omega
    | succ m' =>
    simp only [fX12_twice_L12, fX12_twice_b12, fX4_firstSoldTwice_L4, fX4_firstSoldTwice_b4, d1, d2, bnd_e, nI_a1]
    by_cases e : i = nd
    · subst e
      have hle := c_le (Nat.le_refl i) (show i < 2147483648 by omega)
      exact ⟨-4, by rw [if_pos hle], by rw [if_pos hle]⟩
    · have hle := c_nle (show i < nd by omega) (show nd < 2147483648 by omega)
      obtain ⟨z0, z1, z2, z3, z4, z5, w0, w1, w2⟩ := d3 i (by omega)
      simp (disch := omega) only [if_neg hle, cl, ix_nI, gd_t, z0, if_neg (show ¬ ((0 : Int32) ≤ -1) by decide)]
      by_cases eb : D 0 i = b
      · rw [if_pos (show nI (D 0 i) = nI b by rw [eb])]
        rcases T_in hd hnb F b i hb (by omega) eb k m (i + 1) (by omega) (by omega) (by omega) with ⟨j', h1, h2, h3⟩ | ⟨h1, h2, h3⟩
        · rcases T_in hd hnb F b i hb (by omega) eb k F (i + 1) (by omega) (by omega) (by omega) with ⟨j2, g1, g2, g3⟩ | ⟨g1, g2, g3⟩
          · rw [h2, g3]
            have hjj : j' = j2 := T_det hd hnb F b i hb (by omega) eb m F (i + 1) (by omega) (by omega) (by omega) (by omega) h1 g1 h3 g3
            rw [hjj]
            obtain ⟨r, hr⟩ := hk (nI i) (nI j2)
            exact ⟨r, hr, hr⟩
          · exfalso
            have := T_same hd hnb F b i hb (by omega) eb g1 m (i + 1) (by omega) (by omega) (by omega) (fun _ => none) (some 7)
            rw [h3] at this
            cases this
        · rw [h2]
          refine ⟨-4, rfl, ?_⟩
          rw [T_same hd hnb F b i hb (by omega) eb h1 F (i + 1) (by omega) (by omega) (by omega)]
          exact T_rest hd hnb F b (D 1 i) hF hb k m' (i + 1) (by omega) (by omega) h1
      · rw [if_neg (c_ne eb (by omega) (by omega)), T_skip hd hnb F b i hb (by omega) eb _ _ F (i + 1) (by omega) (by omega)]
        refine ih m' (i + 1) (by omega) (by omega) (by omega) (fun j hj => ?_)
        rcases Nat.lt_or_ge j i with q | q
        · exact q3 j q
        · have : j = i := by omega
          rw [this]; exact eb
theorem Q_twice {S : St} {nd nb : Nat} {D B : Nat → Nat → Nat} (hd : IvD S nd nb D) (hbk : IvB S nb B) (F : Nat) (hF : 1000 ≤ F) (p1 : Int32) : ∃ r, fX11_twice F S p1 = some r ∧ fX12_twice F S p1 = some r := by
  have hne : ¬ (1 : Int32) = 0 := by decide
  rcases a_block p1 nb hbk.1 with ⟨c1, m1⟩ | ⟨a1, rfl, u1, c1, m1⟩
  · exact ⟨-1, by simp only [fX11_twice, c1 S hbk.2.1, cal_s]; rfl, by simp only [fX12_twice, m1 S hbk.2.2.1, cal_s]; rfl⟩
  have hnb := hbk.1
  obtain ⟨r, r1, r2⟩ := T_one hd hnb F a1 hF (by omega) (fun x y => some ((100 : Int32) * x + y)) (fun x y => ⟨_, rfl⟩) F F 0 (by omega) (by have := hd.1; omega) (by have := hd.1; omega) (fun j hj => by omega)
  have r1 : fX4_firstSoldTwice F S (nI a1) = some r := r1
  have r2 : fX12_twice_L12 F S (nI a1) (fun x y => some ((100 : Int32) * x + y)) F 0 = some r := r2
  exact ⟨r, by simp only [fX11_twice, c1 S hbk.2.1, cal_s, if_neg hne, r1], by simp only [fX12_twice, m1 S hbk.2.2.1, cal_s, if_neg hne, r2]⟩
