/-! SHARES, SHARE -/
theorem Q_shares {S : St} {n nb : Nat} {P B : Nat → Nat → Nat} (hP : IvP S n P) (hB : IvB S nb B) (F : Nat) (hF : 1000 ≤ F) (p1 p2 p3 : Int32) : ∃ (r : Int32) (S1 S2 : St) (B2 : Nat → Nat → Nat), fX11_shares F S p1 p2 p3 = some (r, S1) ∧ fX12_shares F S1 p1 p2 p3 = some (r, S2) ∧ IvB S2 nb B2 ∧ Ch 4 S S2 ∧ gC S1 = gC S ∧ gC S2 = gC S := by
  have hne : ¬ (1 : Int32) = 0 := by decide
  obtain ⟨b0, b1, b2, b3, b4⟩ := id hB
  rcases a_block p1 nb b0 with ⟨c1, m1⟩ | ⟨b, rfl, u1, c1, m1⟩
  · exact ⟨-1, S, S, B, by simp only [fX11_shares, c1 S b1, cal_s]; rfl, by simp only [fX12_shares, m1 S b2, cal_s]; rfl, hB, Ch.rf _ _, rfl, rfl⟩
  rcases a_kin p2 with ⟨c2, m2⟩ | ⟨kn, rfl, u2, c2, m2⟩
  · exact ⟨-1, S, S, B, by simp only [fX11_shares, c1 S b1, c2, cal_s, if_neg hne]; rfl, by simp only [fX12_shares, m1 S b2, m2, cal_s, if_neg hne]; rfl, hB, Ch.rf _ _, rfl, rfl⟩
  rcases a_year p3 with ⟨c3, m3⟩ | ⟨y, rfl, u3, c3, m3⟩
  · exact ⟨-1, S, S, B, by simp only [fX11_shares, c1 S b1, c2, c3, cal_s, if_neg hne]; rfl, by simp only [fX12_shares, m1 S b2, m2, m3, cal_s, if_neg hne]; rfl, hB, Ch.rf _ _, rfl, rfl⟩
  have hh := C_hds hP F hF u2 u3
  have hle : hds P n kn y ≤ n := hds_le
  have hn := hP.1
  by_cases e : hds P n kn y = 0
  · obtain ⟨S2, r1, r2, r3, r4, r5⟩ := M_open hP F hF u2 u3
    rw [e] at hh r4
    refine ⟨-2, S, S2, B, ?_, ?_, hB.ch r2 (by decide), r2.up, rfl, r3⟩
    · simp only [fX11_shares, c1 S b1, c2, c3, cal_s, if_neg hne, hh]; rfl
    · simp only [fX12_shares, m1 S b2, m2, m3, cal_s, if_neg hne, r1, r4]; rfl
  · have nz : ¬ nI (hds P n kn y) = 0 := c_ne (b := 0) e (by omega) (by decide)
    obtain ⟨S1, e1⟩ : ∃ S1 : St, S1 = pA (pA S 21 0 b (nI kn)) 22 0 b (nI y) := ⟨_, rfl⟩
    have ch1 : Ch 4 S S1 := by rw [e1]; exact Ch.pA (Ch.pA (Ch.rf 4 S) _ (Or.inl rfl)) _ (Or.inl rfl)
    have g1 : gC S1 = gC S := by rw [e1]; rfl
    have hP1 : IvP S1 n P := hP.ch ch1 (by decide)
    obtain ⟨S2, r1, r2, r3, r4, r5⟩ := M_open hP1 F hF u2 u3
    obtain ⟨S3, e3⟩ : ∃ S3 : St, S3 = pA (pA S2 68 0 b (nI kn)) 69 0 b (nI y) := ⟨_, rfl⟩
    have ch3 : Ch 4 S2 S3 := by rw [e3]; exact Ch.pA (Ch.pA (Ch.rf 4 S2) _ (Or.inl rfl)) _ (Or.inl rfl)
    have g3 : gC S3 = gC S2 := by rw [e3]; rfl
    have i34 : gI S3 11 0 34 = nI (hds P n kn y) := by rw [e3]; exact r4
    have i12 := ix_nI (show b < 12 by omega) (by decide)
    have hcl := cl (show b < 2147483648 by omega)
    refine ⟨nI (hds P n kn y), S1, S3, fun f i => if i = b then (if f = 1 then y + 1 else if f = 2 then kn else B f i) else B f i, ?_, ?_, ?_, (ch1.trans r2.up).trans ch3, g1, by omega⟩
    · simp only [fX11_shares, c1 S b1, c2, c3, cal_s, if_neg hne, hh, if_neg nz, i12, gd_t, bnd_e, hcl]
      rw [← e1]
    · have q2 : gI S1 11 0 13 = nI nb := by rw [e1]; exact b2
      have q1 : gI S1 4 0 3 = nI nb := by rw [e1]; exact b1
      simp only [fX12_shares, m1 S1 q2, m2, m3, cal_s, if_neg hne, r1, r4, if_neg nz, i12, gd_t, bnd_e, hcl]
      rw [← e3, i34]
    · have t1 : ∀ c i, c ≠ 68 → c ≠ 69 → ownA c 0 i ≠ 99 → gA S3 c 0 i = gA S1 c 0 i := fun c i h1 h2 h3 => by
        rw [e3, gA_pc _ _ _ _ _ _ h2, gA_pc _ _ _ _ _ _ h1]
        exact r2.2 c 0 i h3 h3
      have t2 : ∀ c i, c ≠ 21 → c ≠ 22 → gA S1 c 0 i = gA S c 0 i := fun c i h1 h2 => by
        rw [e1, gA_pc _ _ _ _ _ _ h2, gA_pc _ _ _ _ _ _ h1]
      have o68 : ∀ i, gA S2 68 0 i = gA S 68 0 i := fun i => (r2.2 68 0 i (by simp [ownA]) (by simp [ownA])).trans (t2 68 i (by decide) (by decide))
      have o69 : ∀ i, gA S2 69 0 i = gA S 69 0 i := fun i => (r2.2 69 0 i (by simp [ownA]) (by simp [ownA])).trans (t2 69 i (by decide) (by decide))
      refine ⟨b0, ?_, ?_, fun i hi => ?_, fun i hi hj => ?_⟩
      · have : gI S3 4 0 3 = gI S2 4 0 3 := by rw [e3]; rfl
        rw [this, r2.1 4 0 3 (by decide) (by decide), e1]; exact b1
      · have : gI S3 11 0 13 = gI S2 11 0 13 := by rw [e3]; rfl
        rw [this, r2.1 11 0 13 (by decide) (by decide), e1]; exact b2
      · obtain ⟨q0, q1, q2, q3, q4, q5, q6, q7⟩ := b3 i hi
        have w20 : gA S3 20 0 i = nI (B 0 i) := ((t1 20 i (by decide) (by decide) (by simp [ownA])).trans (t2 20 i (by decide) (by decide))).trans q0
        have w64 : gA S3 64 0 i = nI (B 0 i) := ((t1 64 i (by decide) (by decide) (by simp [ownA])).trans (t2 64 i (by decide) (by decide))).trans q1
        by_cases ei : i = b
        · subst ei
          simp only [if_true, show ¬ (0 : Nat) = 1 by decide, show ¬ (0 : Nat) = 2 by decide, if_false, show ¬ (2 : Nat) = 1 by decide]
          refine ⟨w20, w64, ?_, fun _ => ⟨?_, ?_, ?_⟩, fun z => by omega, q5, by omega, u2⟩
          · rw [t1 22 i (by decide) (by decide) (by simp [ownA]), e1, gA_ps, nI_pred]
          · rw [t1 21 i (by decide) (by decide) (by simp [ownA]), e1, gA_pc _ _ _ _ _ _ (by decide), gA_ps]
          · rw [e3, gA_pc _ _ _ _ _ _ (by decide), gA_ps]
          · rw [e3, gA_ps, nI_pred]
        · simp only [if_neg ei]
          refine ⟨w20, w64, ?_, fun z => ?_, fun z => ?_, q5, q6, q7⟩
          · rw [t1 22 i (by decide) (by decide) (by simp [ownA]), e1, gA_pi _ _ _ _ _ _ ei, gA_pc _ _ _ _ _ _ (by decide)]; exact q2
          · obtain ⟨z1, z2, z3⟩ := q3 z
            refine ⟨?_, ?_, ?_⟩
            · rw [t1 21 i (by decide) (by decide) (by simp [ownA]), e1, gA_pc _ _ _ _ _ _ (by decide), gA_pi _ _ _ _ _ _ ei]; exact z1
            · rw [e3, gA_pc _ _ _ _ _ _ (by decide), gA_pi _ _ _ _ _ _ ei, o68]; exact z2
            · rw [e3, gA_pi _ _ _ _ _ _ ei, gA_pc _ _ _ _ _ _ (by decide), o69]; exact z3
          · rw [e3, gA_pc _ _ _ _ _ _ (by decide), gA_pi _ _ _ _ _ _ ei, o68]; exact q4 z
      · rw [e3, gA_pc _ _ _ _ _ _ (by decide), gA_pi _ _ _ _ _ _ (by omega), o68]; exact b4 i hi hj
/-- year by year -/
def yrs (P : Nat → Nat → Nat) (n a : Nat) : Nat → (Nat → Nat) × Nat → (Nat → Nat) × Nat
  | 0, q => q
  | k + 1, q => yst P n (a + k) n (yrs P n a k q)
theorem yrs_tot {P : Nat → Nat → Nat} {n a : Nat} {q : (Nat → Nat) × Nat} (hf : Fam P n) : ∀ k, tot n (yrs P n a k q) = tot n q := by
  intro k
  induction k with
  | zero => rfl
  | succ k ih => rw [yrs, yst_tot hf n (Nat.le_refl _)]; exact ih
theorem C_yrs {n a z : Nat} {P : Nat → Nat → Nat} {q : (Nat → Nat) × Nat} (F : Nat) (hF : 100000 ≤ F) (hz : z ≤ 200) (hq : tot n q = W12) (x2 : Int32) (k : St → Option (Int64 × St)) : ∀ m j (S : St), a + j ≤ z + 1 → z + 1 < a + j + m → IvP S n P → CapI S → TC S n (yrs P n a j q).1 (yrs P n a j q).2 → ∃ S', fX11_share_L86 F x2 (nI z) k m (nI (a + j)) S = k S' ∧ Ch 99 S S' ∧ gC S ≤ gC S' ∧ CapI S' ∧ TC S' n (yrs P n a (z + 1 - a) q).1 (yrs P n a (z + 1 - a) q).2 := by
  intro m
  induction m with
  | zero => intro j S q1 q2; omega
  | succ m ih =>
    intro j S q1 q2 hP hc hT
    simp only [fX11_share_L86, fX11_share_b86]
    by_cases e : a + j = z + 1
    · have e2 : z + 1 - a = j := by omega
      rw [e2]
      exact ⟨S, by rw [if_pos (c_lt (by omega) (by omega))], Ch.rf _ _, Nat.le_refl _, hc, hT⟩
    · rw [if_neg (c_nlt (by omega) (by omega))]
      obtain ⟨S1, r1, r2, r3, r4, r5⟩ := C_year hP F hF (show a + j ≤ 200 by omega) ((yrs_tot (a := a) hP.fam j).trans hq) hc hT
      obtain ⟨S', s1, s2, s3, s4⟩ := ih (j + 1) S1 (by omega) (by omega) (hP.ch r2 (by decide)) r4 r5
      exact ⟨S', by rw [r1, cal_s, nI_a1]; exact s1, r2.trans s2, by omega, s4⟩
theorem M_yrs {n a z : Nat} {P : Nat → Nat → Nat} {q : (Nat → Nat) × Nat} (F : Nat) (hF : 2000000000 ≤ F) (hz : z ≤ 200) (hq : tot n q = W12) (x2 : Int32) (k : St → Option (Int64 × St)) : ∀ m j (S : St), a + j ≤ z + 1 → z + 1 < a + j + m → IvP S n P → TM S n (yrs P n a j q).1 (yrs P n a j q).2 → ∃ S', fX12_share_L79 F x2 (nI z) k m (nI (a + j)) S = k S' ∧ Ch 99 S S' ∧ gC S' = gC S ∧ TM S' n (yrs P n a (z + 1 - a) q).1 (yrs P n a (z + 1 - a) q).2 := by
  intro m
  induction m with
  | zero => intro j S q1 q2; omega
  | succ m ih =>
    intro j S q1 q2 hP hT
    simp only [fX12_share_L79, fX12_share_b79]
    by_cases e : a + j = z + 1
    · have e2 : z + 1 - a = j := by omega
      rw [e2]
      exact ⟨S, by rw [if_pos (c_lt (by omega) (by omega))], Ch.rf _ _, rfl, hT⟩
    · rw [if_neg (c_nlt (by omega) (by omega))]
      obtain ⟨S1, r1, r2, r3, r4⟩ := M_year hP F hF (show a + j ≤ 200 by omega) ((yrs_tot (a := a) hP.fam j).trans hq) hT
      obtain ⟨S', s1, s2, s3, s4⟩ := ih (j + 1) S1 (by omega) (by omega) (hP.ch r2 (by decide)) r4
      exact ⟨S', by rw [r1, cal_s, nI_a1]; exact s1, r2.trans s2, s3.trans r3, s4⟩
theorem j_share {S : St} {n nb : Nat} {P B : Nat → Nat → Nat} (hP : IvP S n P) (hB : IvB S nb B) (hc : CapI S) (F : Nat) (hF : 2000000000 ≤ F) {b : Nat} (hb : b < nb) (p2 p3 : Int32) (hp2 : p2 = -1 ∨ ∃ x, x < n ∧ p2 = nI x) : ∃ (r : Int64) (S1 S2 : St), fX11_share_j27 F S (nI b) p2 p3 = some (r, S1) ∧ fX12_share_j21 F S1 (nI b) p2 p3 = some (r, S2) ∧ Ch 99 S S2 ∧ Ch 99 S S1 ∧ gC S ≤ gC S1 ∧ gC S2 = gC S1 ∧ CapI S1 := by
  have hne : ¬ (1 : Int32) = 0 := by decide
  have hn := hP.1
  obtain ⟨b0, b1, b2, b3, b4⟩ := id hB
  obtain ⟨q0, q1, q2, q3, q4, q5, q6, q7⟩ := b3 b hb
  have i12 := ix_nI (show b < 12 by omega) (by decide)
  have hcl := cl (show b < 2147483648 by omega)
  have done : ∀ r, fX11_share_j27 F S (nI b) p2 p3 = some (r, S) → fX12_share_j21 F S (nI b) p2 p3 = some (r, S) → ∃ (r : Int64) (S1 S2 : St), fX11_share_j27 F S (nI b) p2 p3 = some (r, S1) ∧ fX12_share_j21 F S1 (nI b) p2 p3 = some (r, S2) ∧ Ch 99 S S2 ∧ Ch 99 S S1 ∧ gC S ≤ gC S1 ∧ gC S2 = gC S1 ∧ CapI S1 := fun r h1 h2 => ⟨r, S, S, h1, h2, Ch.rf _ _, Ch.rf _ _, Nat.le_refl _, rfl, hc⟩
  rcases a_year p3 with ⟨c3, m3⟩ | ⟨z, rfl, u3, c3, m3⟩
  · exact done (-1) (by simp only [fX11_share_j27, c3, cal_s]; rfl) (by simp only [fX12_share_j21, m3, cal_s]; rfl)
  by_cases e : B 1 b = 0
  · refine done (-2) ?_ ?_
    · simp only [fX11_share_j27, c3, cal_s, if_neg hne, i12, gd_t, hcl, q2, bnd_e, e]
      rw [if_pos (show nI 0 - 1 < 0 by decide)]
    · simp only [fX12_share_j21, m3, cal_s, if_neg hne, i12, gd_t, hcl, q4 e]
      rw [if_pos (show (-1 : Int32) < 0 by decide)]
  · obtain ⟨w1, w2, w3⟩ := q3 e
    obtain ⟨a, ea⟩ : ∃ a, B 1 b = a + 1 := ⟨B 1 b - 1, by omega⟩
    rw [ea, nI_pred] at q2 w3
    have np : ∀ k, k < 2147483648 → ¬ nI k < 0 := fun k hk => nI_pos (by omega)
    by_cases ey : a ≤ z
    · obtain ⟨S1, o1, o2, o3, o4⟩ := C_open (kn := B 2 b) (Y := a) hP F (by omega) q7 (by omega)
      have hP1 : IvP S1 n P := hP.ch o2 (by decide)
      have hc1 : CapI S1 := by unfold CapI; rw [o3]; exact hc
      obtain ⟨S2, s1, s2, s3, s4, s5⟩ := C_yrs (a := a) (z := z) F (by omega) u3 bgn_tot p2 (fun S_6 => if p2 = (-1) then some (gJ S_6 1 0 2, S_6) else gd (ix p2 30) <| some (gB S_6 18 0 p2.toNatClampNeg, S_6)) F 0 S1 (by omega) (by omega) hP1 hc1 o4
      have ch2 : Ch 99 S S2 := o2.trans s2
      have hP2 : IvP S2 n P := hP.ch ch2 (by decide)
      obtain ⟨b0', b1', b2', b3', b4'⟩ := hB.ch ch2 (by decide)
      obtain ⟨-, -, -, t3, -⟩ := b3' b hb
      obtain ⟨t4, t5, t6⟩ := t3 e
      rw [ea, nI_pred] at t6
      obtain ⟨S3, v1, v2, v3, v4, v5⟩ := M_open (kn := B 2 b) (Y := a) hP2 F (by omega) q7 (by omega)
      have hP3 : IvP S3 n P := hP2.ch v2 (by decide)
      have t69 : gA S3 69 0 b = nI a := (v2.2 69 0 b (by simp [ownA]) (by simp [ownA])).trans t6
      obtain ⟨S4, y1, y2, y3, y4⟩ := M_yrs (a := a) (z := z) F hF u3 bgn_tot p2 (fun S_6 => if 0 ≤ p2 then gd (ix p2 30) <| some (gB S_6 76 0 p2.toNatClampNeg, S_6) else some (gJ S_6 11 0 33, S_6)) F 0 S3 (by omega) (by omega) hP3 v5
      have cs : fX11_share_j27 F S (nI b) p2 (nI z) = if p2 = (-1) then some (gJ S2 1 0 2, S2) else gd (ix p2 30) <| some (gB S2 18 0 p2.toNatClampNeg, S2) := by
        simp only [fX11_share_j27, c3, cal_s, if_neg hne, i12, gd_t, hcl, q2, w1, bnd_e]
        rw [if_neg (np a (by omega)), if_pos (c_le ey (by omega)), o1, cal_s]
        exact s1
      have ms : fX12_share_j21 F S2 (nI b) p2 (nI z) = if 0 ≤ p2 then gd (ix p2 30) <| some (gB S4 76 0 p2.toNatClampNeg, S4) else some (gJ S4 11 0 33, S4) := by
        simp only [fX12_share_j21, m3, cal_s, if_neg hne, i12, gd_t, hcl, t5, t6, bnd_e]
        rw [if_neg (np (B 2 b) (by omega)), if_pos (c_le ey (by omega)), v1, cal_s, t69]
        exact y1
      have fin : ∀ r, (if p2 = (-1) then some (gJ S2 1 0 2, S2) else gd (ix p2 30) <| some (gB S2 18 0 p2.toNatClampNeg, S2)) = some (r, S2) → (if 0 ≤ p2 then gd (ix p2 30) <| some (gB S4 76 0 p2.toNatClampNeg, S4) else some (gJ S4 11 0 33, S4)) = some (r, S4) → ∃ (r : Int64) (S1 S2 : St), fX11_share_j27 F S (nI b) p2 (nI z) = some (r, S1) ∧ fX12_share_j21 F S1 (nI b) p2 (nI z) = some (r, S2) ∧ Ch 99 S S2 ∧ Ch 99 S S1 ∧ gC S ≤ gC S1 ∧ gC S2 = gC S1 ∧ CapI S1 := fun r h1 h2 => ⟨r, S2, S4, cs.trans h1, ms.trans h2, (ch2.trans v2).trans y2, ch2, by omega, by omega, s4⟩
      rcases hp2 with rfl | ⟨x, hx, rfl⟩
      · exact fin (lN (yrs P n a (z + 1 - a) (bgn P n (B 2 b) a)).2) (by rw [if_pos rfl, s5.2]) (by rw [if_neg (by decide), y4.2])
      · have nm : ¬ nI x = -1 := fun q => by
          have := (t_eq _ _).mp q
          rw [t_nI (by omega), show (-1 : Int32).toInt = -1 by decide] at this
          omega
        have i30 := ix_nI (show x < 30 by omega) (by decide)
        have xcl := cl (show x < 2147483648 by omega)
        exact fin (lN ((yrs P n a (z + 1 - a) (bgn P n (B 2 b) a)).1 x)) (by rw [if_neg nm, i30, gd_t, xcl, s5.1 x hx]) (by rw [if_pos (nI_pos' (by omega)), i30, gd_t, xcl, y4.1 x hx])
    · refine done (-2) ?_ ?_
      · simp only [fX11_share_j27, c3, cal_s, if_neg hne, i12, gd_t, hcl, q2, bnd_e]
        rw [if_neg (np a (by omega)), if_neg (c_nle (by omega) (by omega))]
      · simp only [fX12_share_j21, m3, cal_s, if_neg hne, i12, gd_t, hcl, w2, w3]
        rw [if_neg (np (B 2 b) (by omega)), if_neg (c_nle (by omega) (by omega))]
theorem Q_share {S : St} {n nb : Nat} {P B : Nat → Nat → Nat} (hP : IvP S n P) (hB : IvB S nb B) (hc : CapI S) (F : Nat) (hF : 2000000000 ≤ F) (p1 p2 p3 : Int32) : ∃ (r : Int64) (S1 S2 : St), fX11_share F S p1 p2 p3 = some (r, S1) ∧ fX12_share F S1 p1 p2 p3 = some (r, S2) ∧ Ch 99 S S2 ∧ gC S ≤ gC S1 ∧ gC S2 = gC S1 ∧ CapI S1 := by
  have hne : ¬ (1 : Int32) = 0 := by decide
  obtain ⟨b0, b1, b2, b3, b4⟩ := id hB
  rcases a_block p1 nb b0 with ⟨c1, m1⟩ | ⟨b, rfl, u1, c1, m1⟩
  · exact ⟨-1, S, S, by simp only [fX11_share, c1 S b1, cal_s]; rfl, by simp only [fX12_share, m1 S b2, cal_s]; rfl, Ch.rf _ _, Nat.le_refl _, rfl, hc⟩
  by_cases e : p2 = -1
  · obtain ⟨r, S1, S2, r1, r2, r3, r4, r5, r6, r7⟩ := j_share hP hB hc F hF u1 p2 p3 (Or.inl e)
    have q2 : gI S1 11 0 13 = nI nb := (r4.1 11 0 13 (by decide) (by decide)).trans b2
    refine ⟨r, S1, S2, ?_, ?_, r3, r5, r6, r7⟩
    · simp only [fX11_share, c1 S b1, cal_s, if_neg hne, if_pos e]; exact r1
    · simp only [fX12_share, m1 S1 q2, cal_s, if_neg hne, if_pos e]; exact r2
  · rcases a_person p2 n hP.1 with ⟨c2, m2⟩ | ⟨x, rfl, u2, c2, m2⟩
    · exact ⟨-1, S, S, by simp only [fX11_share, c1 S b1, c2 S hP.2.1, cal_s, if_neg hne, if_neg e]; rfl, by simp only [fX12_share, m1 S b2, m2 S hP.2.2.1, cal_s, if_neg hne, if_neg e]; rfl, Ch.rf _ _, Nat.le_refl _, rfl, hc⟩
    · obtain ⟨r, S1, S2, r1, r2, r3, r4, r5, r6, r7⟩ := j_share hP hB hc F hF u1 (nI x) p3 (Or.inr ⟨x, u2, rfl⟩)
      have q2 : gI S1 11 0 13 = nI nb := (r4.1 11 0 13 (by decide) (by decide)).trans b2
      have q3 : gI S1 11 0 6 = nI n := (r4.1 11 0 6 (by decide) (by decide)).trans hP.2.2.1
      refine ⟨r, S1, S2, ?_, ?_, r3, r5, r6, r7⟩
      · simp only [fX11_share, c1 S b1, c2 S hP.2.1, cal_s, if_neg hne, if_neg e]; exact r1
      · simp only [fX12_share, m1 S1 q2, m2 S1 q3, cal_s, if_neg hne, if_neg e]; exact r2
