/-! SMALL -/
theorem giv_dead {P : Nat → Nat → Nat} {n Y x : Nat} (hf : Fam P n) (hx : ¬ Y < P 1 x) : ∀ d h y, n ≤ h + d → h < n → giv P n Y h y x = 0 := by
  intro d
  induction d with
  | zero => intro h y a b; omega
  | succ d ih =>
    intro h y a b
    by_cases e : Y < P 1 h
    · rw [giv_a b e, if_neg (fun q => hx (by rw [q]; exact e))]
    · rw [giv_d hf b e]
      refine sm_0 (fun j hj => ?_)
      by_cases q : chd P Y h j = true
      · have := chd_lt hf hj q
        rw [if_pos q]; exact ih j _ (by omega) hj
      · rw [if_neg q]
theorem yst_dead {P : Nat → Nat → Nat} {n Y : Nat} {q : (Nat → Nat) × Nat} (hf : Fam P n) (h : ∀ x, x < n → P 1 x < Y → q.1 x = 0) : ∀ k, k ≤ n → ∀ x, x < n → (P 1 x < Y ∨ (P 1 x = Y ∧ x < k)) → (yst P n Y k q).1 x = 0 := by
  intro k
  induction k with
  | zero => intro _ x hx hz; exact h x hx (by omega)
  | succ k ih =>
    intro hk x hx hz
    rw [yst]
    by_cases c : P 1 k = Y ∧ 0 < (yst P n Y k q).1 k
    · rw [if_pos c]
      unfold hnd
      simp only
      rw [giv_dead hf (by omega) n k _ (by omega) (by omega)]
      by_cases ex : x = k
      · rw [if_pos ex]
      · rw [if_neg ex, ih (by omega) x hx (by omega)]
    · rw [if_neg c]
      by_cases ex : x = k
      · subst ex
        rcases hz with z | z
        · exact ih (by omega) x hx (Or.inl z)
        · have : ¬ 0 < (yst P n Y x q).1 x := fun w => c ⟨z.1, w⟩
          omega
      · exact ih (by omega) x hx (by omega)
def isS (N : Nat) (T : Nat → Nat) (x : Nat) : Bool := decide (0 < T x ∧ T x * N < W12)
def sml (P : Nat → Nat → Nat) (n N : Nat) : Nat → Nat → (Nat → Nat) × Nat → Int32
  | 0, _, _ => -4
  | k + 1, y, q => if fb_ct (isS N (yst P n y n q).1) n = 0 then sml P n N k (y + 1) (yst P n y n q) else nI y
theorem lg_ge (x y : Int64) : 0 ≤ lg_cmp x y ↔ y.toInt ≤ x.toInt := by
  have a := lg_lt x y
  constructor
  · intro h
    have : ¬ lg_cmp x y < 0 := Int32.not_lt.mpr h
    have : ¬ x.toInt < y.toInt := fun q => this (a.mpr q)
    omega
  · intro h
    exact Int32.not_lt.mp (fun q => by have := a.mp q; omega)
theorem lg_geW {t N : Nat} (ht : t ≤ W12) (hN : N ≤ 1000000) : 0 ≤ lg_cmp (lN t * (nI N).toInt64) 1000000000000 ↔ W12 ≤ t * N := by
  have hm : t * N ≤ W12 * 1000000 := Nat.mul_le_mul ht hN
  have hW : W12 * 1000000 < 2 ^ 63 := by decide
  rw [lg_ge, nI_l (by omega), lN_mul, pk_lT (by omega), show (1000000000000 : Int64).toInt = 1000000000000 by decide]
  unfold W12
  omega
theorem C_less {S : St} {n N : Nat} {P : Nat → Nat → Nat} {T : Nat → Nat} {L : Nat} (hP : IvP S n P) (hT : TC S n T L) (hb : ∀ x, x < n → T x ≤ W12) (hN : N ≤ 1000000) (F : Nat) : ∀ m i, i ≤ n → n < i + m → fb_ct (isS N T) i = 0 → fX1_hasLessThanOneOf_L2 F S (nI N) m (nI i) = some (if fb_ct (isS N T) n = 0 then 0 else 1) := by
  have hW : W12 < 2 ^ 63 := by decide
  have hn := hP.1
  intro m
  induction m with
  | zero => intro i q1 q2; omega
  | succ m ih =>
    intro i q1 q2 hz
    simp only [fX1_hasLessThanOneOf_L2, fX1_hasLessThanOneOf_b2, hP.2.1]
    by_cases e : i = n
    · subst e; rw [if_pos (c_le (Nat.le_refl _) (by omega)), if_pos hz]
    · have hi : i < n := by omega
      have hl := lg_le0 (y := T i) (by have := hb i hi; omega)
      have hg := lg_geW (hb i hi) hN
      rw [if_neg (c_nle hi (by omega)), ix_nI (show i < 30 by omega) (by decide), gd_t, gd_t, cl (show i < 2147483648 by omega), hT.1 i hi, nI_a1]
      by_cases c : isS N T i = true
      · have c' := c
        unfold isS at c'
        rw [decide_eq_true_eq] at c'
        have nz : ¬ fb_ct (isS N T) n = 0 := fun z => by
          have := fb_ct_zero.mp z i hi
          rw [c] at this; exact absurd this (by decide)
        rw [if_neg (fun z => by have := hl.mp z; omega), if_neg (fun z => by have := hg.mp z; omega), if_neg nz]
      · have ihh := ih (i + 1) (by omega) (by omega) (by rw [fb_ct_succ, hz, if_neg c])
        have c' : ¬ (0 < T i ∧ T i * N < W12) := fun z => c (by unfold isS; rw [decide_eq_true_eq]; exact z)
        by_cases t0 : T i = 0
        · rw [if_pos (hl.mpr t0)]; exact ihh
        · rw [if_neg (fun z => t0 (hl.mp z)), if_pos (hg.mpr (by omega))]; exact ihh
theorem M_less {S : St} {n N y : Nat} {P : Nat → Nat → Nat} {T : Nat → Nat} {L : Nat} (hP : IvP S n P) (hT : TM S n T L) (hb : ∀ x, x < n → T x ≤ W12) (hd : ∀ x, x < n → P 1 x ≤ y → T x = 0) (hy : y ≤ 200) (hN : N ≤ 1000000) (F : Nat) (k : Option (Int32 × St)) : ∀ m i, i ≤ n → n < i + m → fb_ct (isS N T) i = 0 → fX12_small_L72 F S (nI N) (nI y) k m (nI i) = if fb_ct (isS N T) n = 0 then k else some (nI y, S) := by
  have hW : W12 < 2 ^ 63 := by decide
  have hn := hP.1
  intro m
  induction m with
  | zero => intro i q1 q2; omega
  | succ m ih =>
    intro i q1 q2 hz
    simp only [fX12_small_L72, fX12_small_b72, hP.2.2.1]
    by_cases e : i = n
    · subst e; rw [if_pos (c_le (Nat.le_refl _) (by omega)), if_pos hz]
    · have hi : i < n := by omega
      have hx := P1_lt hP hi
      obtain ⟨p0, p1, p2, p3, p4, p5, p6, p7, p8, p9, p10, x0, x1, x2⟩ := hP.2.2.2 i hi
      have hl := lg_le0 (y := T i) (by have := hb i hi; omega)
      have hg := lg_geW (hb i hi) hN
      rw [if_neg (c_nle hi (by omega)), ix_nI (show i < 30 by omega) (by decide), gd_t, gd_t, gd_t, cl (show i < 2147483648 by omega), p7, hT.1 i hi, nI_a1]
      by_cases c : isS N T i = true
      · have c' := c
        unfold isS at c'
        rw [decide_eq_true_eq] at c'
        have nz : ¬ fb_ct (isS N T) n = 0 := fun z => by
          have := fb_ct_zero.mp z i hi
          rw [c] at this; exact absurd this (by decide)
        have al : y < P 1 i := by
          by_cases z : P 1 i ≤ y
          · have := hd i hi z; omega
          · omega
        rw [if_neg (c_nle al (by omega)), if_neg (fun z => by have := hl.mp z; omega), if_neg (fun z => by have := hg.mp z; omega), if_neg nz]
      · have ihh := ih (i + 1) (by omega) (by omega) (by rw [fb_ct_succ, hz, if_neg c])
        have c' : ¬ (0 < T i ∧ T i * N < W12) := fun z => c (by unfold isS; rw [decide_eq_true_eq]; exact z)
        by_cases al : P 1 i ≤ y
        · rw [if_pos (c_le al (by omega))]; exact ihh
        · rw [if_neg (c_nle (by omega) (by omega))]
          by_cases t0 : T i = 0
          · rw [if_pos (hl.mpr t0)]; exact ihh
          · rw [if_neg (fun z => t0 (hl.mp z)), if_pos (hg.mpr (by omega))]; exact ihh
theorem C_small {n N : Nat} {P : Nat → Nat → Nat} (F : Nat) (hF : 100000 ≤ F) (hN : N ≤ 1000000) : ∀ k m y (q : (Nat → Nat) × Nat) (S : St), y + k = 201 → k < m → tot n q = W12 → IvP S n P → CapI S → TC S n q.1 q.2 → ∃ S', fX11_small_L60 F (nI N) m (nI y) S = some (sml P n N k y q, S') ∧ Ch 99 S S' ∧ gC S ≤ gC S' ∧ CapI S' := by
  intro k
  induction k with
  | zero =>
    intro m y q S h1 h2 hq hP hc hT
    obtain ⟨m, rfl⟩ : ∃ m', m = m' + 1 := ⟨m - 1, by omega⟩
    refine ⟨S, ?_, Ch.rf _ _, Nat.le_refl _, hc⟩
    simp only [fX11_small_L60, fX11_small_b60]
    rw [if_pos (show (200 : Int32) < nI y from c_lt (a := 200) (by omega) (by omega))]
    rfl
  | succ k ih =>
    intro m y q S h1 h2 hq hP hc hT
    obtain ⟨m, rfl⟩ : ∃ m', m = m' + 1 := ⟨m - 1, by omega⟩
    have hn := hP.1
    simp only [fX11_small_L60, fX11_small_b60]
    rw [if_neg (show ¬ (200 : Int32) < nI y from c_nlt (b := y) (a := 200) (by omega) (by decide))]
    obtain ⟨S1, r1, r2, r3, r4, r5⟩ := C_year hP F hF (show y ≤ 200 by omega) hq hc hT
    have hP1 : IvP S1 n P := hP.ch r2 (by decide)
    have tt : tot n (yst P n y n q) = W12 := (yst_tot hP.fam n (Nat.le_refl _)).trans hq
    have less : fX1_hasLessThanOneOf F S1 (nI N) = some (if fb_ct (isS N (yst P n y n q).1) n = 0 then 0 else 1) := C_less hP1 r5 (fun x hx => by rw [← tt]; exact tot_le hx) hN F F 0 (Nat.zero_le _) (by omega) rfl
    rw [r1, cal_s, less, cal_s, sml]
    by_cases c : fb_ct (isS N (yst P n y n q).1) n = 0
    · rw [if_pos c, if_pos rfl, if_pos c, nI_a1]
      obtain ⟨S', s1, s2, s3, s4⟩ := ih m (y + 1) (yst P n y n q) S1 (by omega) (by omega) tt hP1 r4 r5
      exact ⟨S', s1, r2.trans s2, by omega, s4⟩
    · rw [if_neg c, if_neg (by decide), if_neg c]
      exact ⟨S1, rfl, r2, r3, r4⟩
theorem M_small {n N : Nat} {P : Nat → Nat → Nat} (F : Nat) (hF : 2000000000 ≤ F) (hN : N ≤ 1000000) : ∀ k m y (q : (Nat → Nat) × Nat) (S : St), y + k = 201 → k < m → tot n q = W12 → (∀ x, x < n → P 1 x < y → q.1 x = 0) → IvP S n P → TM S n q.1 q.2 → ∃ S', fX12_small_L57 F (nI N) m (nI y) S = some (sml P n N k y q, S') ∧ Ch 99 S S' ∧ gC S' = gC S := by
  intro k
  induction k with
  | zero =>
    intro m y q S h1 h2 hq hd hP hT
    obtain ⟨m, rfl⟩ : ∃ m', m = m' + 1 := ⟨m - 1, by omega⟩
    refine ⟨S, ?_, Ch.rf _ _, rfl⟩
    simp only [fX12_small_L57, fX12_small_b57]
    rw [if_pos (show (200 : Int32) < nI y from c_lt (a := 200) (by omega) (by omega))]
    rfl
  | succ k ih =>
    intro m y q S h1 h2 hq hd hP hT
    obtain ⟨m, rfl⟩ : ∃ m', m = m' + 1 := ⟨m - 1, by omega⟩
    have hn := hP.1
    simp only [fX12_small_L57, fX12_small_b57]
    rw [if_neg (show ¬ (200 : Int32) < nI y from c_nlt (b := y) (a := 200) (by omega) (by decide))]
    obtain ⟨S1, r1, r2, r3, r4⟩ := M_year hP F hF (show y ≤ 200 by omega) hq hT
    have hP1 : IvP S1 n P := hP.ch r2 (by decide)
    have tt : tot n (yst P n y n q) = W12 := (yst_tot hP.fam n (Nat.le_refl _)).trans hq
    have dd := yst_dead hP.fam hd n (Nat.le_refl _)
    have less := M_less hP1 r4 (fun x hx => by rw [← tt]; exact tot_le hx) (fun x hx hz => dd x hx (by omega)) (show y ≤ 200 by omega) hN F (fX12_small_L57 F (nI N) m (nI y + 1) S1) F 0 (Nat.zero_le _) (by omega) rfl
    rw [r1, cal_s, sml]
    by_cases c : fb_ct (isS N (yst P n y n q).1) n = 0
    · rw [if_pos c] at less
      rw [if_pos c]
      obtain ⟨S', s1, s2, s3⟩ := ih m (y + 1) (yst P n y n q) S1 (by omega) (by omega) tt (fun x hx hz => dd x hx (by omega)) hP1 r4
      refine ⟨S', Eq.trans less ?_, r2.trans s2, s3.trans r3⟩
      rw [nI_a1]; exact s1
    · rw [if_neg c] at less
      rw [if_neg c]
      exact ⟨S1, less, r2, r3⟩
theorem a_piece (p : Int32) : ((∀ S, fX11_within S p 1 1000000 = some 0) ∧ ∀ S, fX12_in S p.toInt64 1 1000000 = some 0) ∨ ∃ k : Nat, p = nI k ∧ 1 ≤ k ∧ k ≤ 1000000 ∧ (∀ S, fX11_within S (nI k) 1 1000000 = some 1) ∧ ∀ S, fX12_in S (nI k).toInt64 1 1000000 = some 1 := ar_n p 1 1000000 (by decide) 1 1000000 1 1000000 (by decide) (by decide) (by decide) (by decide)
theorem Q_small {S : St} {n nb : Nat} {P B : Nat → Nat → Nat} (hP : IvP S n P) (hB : IvB S nb B) (hc : CapI S) (F : Nat) (hF : 2000000000 ≤ F) (p1 p2 : Int32) : ∃ (r : Int32) (S1 S2 : St), fX11_small F S p1 p2 = some (r, S1) ∧ fX12_small F S1 p1 p2 = some (r, S2) ∧ Ch 99 S S2 ∧ gC S ≤ gC S1 ∧ gC S2 = gC S1 ∧ CapI S1 := by
  have hne : ¬ (1 : Int32) = 0 := by decide
  have hn := hP.1
  obtain ⟨b0, b1, b2, b3, b4⟩ := id hB
  rcases a_block p1 nb b0 with ⟨c1, m1⟩ | ⟨b, rfl, u1, c1, m1⟩
  · exact ⟨-1, S, S, by simp only [fX11_small, c1 S b1, cal_s]; rfl, by simp only [fX12_small, m1 S b2, cal_s]; rfl, Ch.rf _ _, Nat.le_refl _, rfl, hc⟩
  rcases a_piece p2 with ⟨c2, m2⟩ | ⟨N, rfl, u2, u3, c2, m2⟩
  · exact ⟨-1, S, S, by simp only [fX11_small, c1 S b1, c2, cal_s, if_neg hne]; rfl, by simp only [fX12_small, m1 S b2, m2, cal_s, if_neg hne]; rfl, Ch.rf _ _, Nat.le_refl _, rfl, hc⟩
  obtain ⟨q0, q1, q2, q3, q4, q5, q6, q7⟩ := b3 b u1
  have i12 := ix_nI (show b < 12 by omega) (by decide)
  have hcl := cl (show b < 2147483648 by omega)
  by_cases e : B 1 b = 0
  · refine ⟨-2, S, S, ?_, ?_, Ch.rf _ _, Nat.le_refl _, rfl, hc⟩
    · simp only [fX11_small, c1 S b1, c2, cal_s, if_neg hne, i12, gd_t, hcl, q2, bnd_e, e]
      rw [if_neg (show ¬ (0 : Int32) ≤ nI 0 - 1 by decide)]
    · simp only [fX12_small, m1 S b2, m2, cal_s, if_neg hne, i12, gd_t, hcl, q4 e]
      rw [if_neg (show ¬ (0 : Int32) ≤ -1 by decide)]
  · obtain ⟨w1, w2, w3⟩ := q3 e
    obtain ⟨a, ea⟩ : ∃ a, B 1 b = a + 1 := ⟨B 1 b - 1, by omega⟩
    rw [ea, nI_pred] at q2 w3
    obtain ⟨S1, o1, o2, o3, o4⟩ := C_open (kn := B 2 b) (Y := a) hP F (by omega) q7 (by omega)
    have hP1 : IvP S1 n P := hP.ch o2 (by decide)
    have hc1 : CapI S1 := by unfold CapI; rw [o3]; exact hc
    obtain ⟨S2, s1, s2, s3, s4⟩ := C_small (n := n) (P := P) (N := N) F (by omega) u3 (201 - a) F a (bgn P n (B 2 b) a) S1 (by omega) (by omega) bgn_tot hP1 hc1 o4
    have ch2 : Ch 99 S S2 := o2.trans s2
    have hP2 : IvP S2 n P := hP.ch ch2 (by decide)
    obtain ⟨b0', b1', b2', b3', b4'⟩ := hB.ch ch2 (by decide)
    obtain ⟨-, -, -, t3, -⟩ := b3' b u1
    obtain ⟨t4, t5, t6⟩ := t3 e
    rw [ea, nI_pred] at t6
    obtain ⟨S3, v1, v2, v3, v4, v5⟩ := M_open (kn := B 2 b) (Y := a) hP2 F (by omega) q7 (by omega)
    have hP3 : IvP S3 n P := hP2.ch v2 (by decide)
    have t69 : gA S3 69 0 b = nI a := (v2.2 69 0 b (by simp [ownA]) (by simp [ownA])).trans t6
    obtain ⟨S4, y1, y2, y3⟩ := M_small (n := n) (P := P) (N := N) F hF u3 (201 - a) F a (bgn P n (B 2 b) a) S3 (by omega) (by omega) bgn_tot (fun x hx hz => by
      unfold bgn; simp only
      rw [if_neg (fun z => by
        unfold lf at z
        simp at z
        omega)]) hP3 v5
    refine ⟨sml P n N (201 - a) a (bgn P n (B 2 b) a), S2, S4, ?_, ?_, (ch2.trans v2).trans y2, by omega, by omega, s4⟩
    · simp only [fX11_small, c1 S b1, c2, cal_s, if_neg hne, i12, gd_t, hcl, q2, w1, bnd_e]
      rw [if_pos (nI_pos' (by omega)), o1, cal_s]
      exact s1
    · simp only [fX12_small, m1 S2 b2', m2, cal_s, if_neg hne, i12, gd_t, hcl, t5, t6, bnd_e]
      rw [if_pos (nI_pos' (by omega)), v1, cal_s, t69]
      exact y1
