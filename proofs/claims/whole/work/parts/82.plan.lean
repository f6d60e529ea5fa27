/-! PLAN -/
theorem co_p_le {S : St} {n np A coin i s : Nat} {C : Nat → Nat → Nat} (h : IvC S n np C) (hi : i < n) (hf : fre A s i = true) : co_p n C (prP C coin) i s ≤ 900000 := by
  have h9 := h.1
  obtain ⟨p1, p2⟩ := fre_t.mp hf
  have l := (len_p h hi).2
  obtain ⟨q0, q1, q2, q3, q4, q5, q6, q7, q8, q9, q10, q11, x0, x1, x2, x3, x4, x5, x6⟩ := h.2.2.2 i hi
  have : sumM (C 5) s n + C 5 i ≤ 9000 := by
    have := sumM_room (w := C 5) (s := s) (n := n) (K := 1000) p2 hi (fun j hj => (len_p h hj).2.2)
    have : 1000 * n ≤ 9000 := by omega
    omega
  exact prP_le this x1.2
theorem L_mp2 {S0 : St} {n np A coin : Nat} {C : Nat → Nat → Nat} (h0 : IvC S0 n np C) (F : Nat) (hF : 1000 ≤ F) (hA : A < 2 ^ n) (hA5 : A < 512) (hc : 1 ≤ coin) (hc2 : coin ≤ 1000) (p3 : Int32) (k : St → Option (Int32 × St)) : ∀ m j S, OffK 79 S0 S → j ≤ A → j < m → (∀ s, sub s A → j ≤ s → gA S 79 0 s = nI (rs A n (co_p n C (prP C coin)) s)) → ∃ S', fX12_plan_L52 F (nI coin) p3 (nI A) k m (nI j - 1) S = k S' ∧ OffK 79 S0 S' ∧ ∀ s, sub s A → gA S' 79 0 s = nI (rs A n (co_p n C (prP C coin)) s) := by
  have hcc : ∀ i s, i < n → sub s A → fre A s i = true → co_p n C (prP C coin) i s ≤ 900000 := fun i s hi _ hf => co_p_le h0 hi hf
  have bd : ∀ s, sub s A → rs A n (co_p n C (prP C coin)) s < 1000000000 := fun s hs => by
    have b := rs_bd (K := 900000) hA hA5 (by omega) hcc (A + 1) s hs (by omega)
    have b2 : 900000 * (A - s) ≤ 900000 * 511 := Nat.mul_le_mul_left _ (by omega)
    omega
  intro m
  induction m with
  | zero => intro j S _ _ h; omega
  | succ m ih =>
    intro j S o hj hm hr
    have h := h0.off o own79
    simp only [fX12_plan_L52, fX12_plan_b52]
    cases j with
    | zero =>
      rw [if_pos (show nI 0 - 1 < 0 by decide)]
      exact ⟨S, rfl, o, fun s hs => hr s hs (by omega)⟩
    | succ j =>
      have e1 : nI (j + 1) - 1 = nI j := nI_subn (a := j + 1) (b := 1) (by omega)
      have em : nI j + -1 = nI j - 1 := by rw [Int32.sub_eq_add_neg]
      rw [e1, if_neg (nI_pos (by omega)), mis_I, em]
      by_cases c : sub j A
      · have c0 : mis j A = 0 := (sub_mis (by omega)).mpr c
        have cc : nI (mis j A) = 0 := by rw [c0]; rfl
        have hnA : j ≠ A := by omega
        have o1 : OffK 79 S (pA S 79 0 j (nI 2000000000)) := (OffK.rf 79 S).pA 0 j _
        obtain ⟨S1, r1, r2, r3, r4⟩ := L_mp1 F hF hA5 (show j < 512 by omega) hc hc2 p3 (fun S_11 => fX12_plan_L52 F (nI coin) p3 (nI A) k m (nI j - 1) S_11) (R := rs A n (co_p n C (prP C coin))) (fun i hi hf => bd _ (or_sub c (fre_t.mp hf).1)) F 0 (pA S 79 0 j (nI 2000000000)) (by omega) (by have := h0.1; omega) (h.off o1 own79) (fun i hi hf => by
          obtain ⟨p1, p2⟩ := fre_t.mp hf
          have g := or_gt p2
          rw [gA_pi _ _ _ _ _ _ (show j ||| 2 ^ i ≠ j by omega)]
          exact hr _ (or_sub c p1) (by omega)) (gA_ps _ _ _ _ _)
        obtain ⟨-, i, i1, i2, i3⟩ := rs_at hA hA5 (show 900000 ≤ 900000 from Nat.le_refl _) hcc c hnA
        have v : mn 2000000000 (fre A j) (fun i => co_p n C (prP C coin) i j + rs A n (co_p n C (prP C coin)) (j ||| 2 ^ i)) n = rs A n (co_p n C (prP C coin)) j := by
          have q := rs_eq (n := n) (c := co_p n C (prP C coin)) c
          rw [if_neg hnA] at q
          rw [q]
          have b := bd _ c
          exact mn_x i1 i2 (by omega) (by omega)
        rw [v] at r4
        obtain ⟨S', q1, q2, q3⟩ := ih j S1 (o.tr (o1.tr r2)) (by omega) (by omega) (fun s hs hjs => by
          by_cases es : s = j
          · subst es; exact r4
          · rw [r3 s es, gA_pi _ _ _ _ _ _ es]; exact hr s hs (by omega))
        refine ⟨S', ?_, q2, q3⟩
        rw [if_pos cc, ix_nI (show j < 512 by omega) (by decide), gd_t, cl (by omega), bnd_e]
        exact Eq.trans r1 q1
      · have c0 : ¬ mis j A = 0 := fun z => c ((sub_mis (by omega)).mp z)
        have ml := mis_le j A
        have cc : ¬ nI (mis j A) = 0 := c_ne (b := 0) c0 (by omega) (by decide)
        rw [if_neg cc]
        exact ih j S o (by omega) (by omega) (fun s hs hjs => by
          by_cases es : s = j
          · subst es; exact absurd hs c
          · exact hr s hs (by omega))
theorem L_mp3 {S : St} {n np A coin s : Nat} {C : Nat → Nat → Nat} (h : IvC S n np C) (F : Nat) (hF : 1000 ≤ F) (hA : A < 2 ^ n) (hA5 : A < 512) (hc : 1 ≤ coin) (hc2 : coin ≤ 1000) (p3 x7 : Int32) (hs : sub s A) (hR : ∀ s, sub s A → gA S 79 0 s = nI (rs A n (co_p n C (prP C coin)) s)) (bd : ∀ s, sub s A → rs A n (co_p n C (prP C coin)) s < 1000000000) (k : Int32 → Option (Int32 × St)) : ∀ m i, i ≤ n → n + 1 < i + m → fX12_plan_L217 F S (nI coin) p3 (nI A) (nI s) x7 k m (-4) (nI i) = k (ncode (nf (nxQ A n (co_p n C (prP C coin)) s) (n - i) i)) := by
  have h9 := h.1
  have hne : ¬ (1 : Int32) = 0 := by decide
  have hsl := sub_le hs
  intro m
  induction m with
  | zero => intro i a b; omega
  | succ m ih =>
    intro i a b
    simp only [fX12_plan_L217, fX12_plan_b217, h.2.2.1]
    by_cases e : i = n
    · subst e; rw [if_pos (c_le (Nat.le_refl _) (by omega)), Nat.sub_self]; rfl
    · have ihh := ih (i + 1) (by omega) (by omega)
      have ml := mis_le A s
      rw [if_neg (c_nle (by omega) (by omega)), if_true, mis_I, hb_m, hb_nI (by omega) (by omega), mis_t A s (by omega), cal_s, show n - i = (n - (i + 1)) + 1 by omega, nf]
      by_cases c : fre A s i = true
      · have c' : (A.testBit i && !s.testBit i) = true := c
        obtain ⟨p1, p2⟩ := fre_t.mp c
        have w1 := waits_s h F hF (show s < 512 by omega) (show i < n by omega) hc hc2
        have w2 := co_p_le (coin := coin) h (show i < n by omega) c
        have b1 := bd _ (or_sub hs p1)
        have b2 := bd _ hs
        have ho : s ||| 2 ^ i < 512 := or_lt (i := 9) (by omega) (Nat.pow_lt_pow_right (by decide) (by omega))
        rw [if_pos c', if_neg hne, w1, cal_s, shl1 (by omega), fa_or, ix_nI ho (by decide), gd_t, ix_nI (show s < 512 by omega) (by decide), gd_t, cl (show s ||| 2 ^ i < 2147483648 by omega), cl (show s < 2147483648 by omega), hR s hs, hR _ (or_sub hs p1), nI_add]
        by_cases d : co_p n C (prP C coin) i s + rs A n (co_p n C (prP C coin)) (s ||| 2 ^ i) = rs A n (co_p n C (prP C coin)) s
        · rw [if_pos (show nI (co_p n C (prP C coin) i s + rs A n (co_p n C (prP C coin)) (s ||| 2 ^ i)) = nI (rs A n (co_p n C (prP C coin)) s) by rw [d]), if_pos (show nxQ A n (co_p n C (prP C coin)) s i = true by simp [nxQ, c, d]), nI_a1]
          obtain ⟨m', rfl⟩ : ∃ m', m = m' + 1 := ⟨m - 1, by omega⟩
          simp only [fX12_plan_L217, fX12_plan_b217, h.2.2.1]
          rw [if_neg (ne4 (by omega))]
          exact ite_self _
        · rw [if_neg (c_ne d (by omega) (by omega)), if_neg (show ¬ nxQ A n (co_p n C (prP C coin)) s i = true by simp [nxQ, d]), nI_a1]
          exact ihh
      · have c' : ¬ (A.testBit i && !s.testBit i) = true := c
        rw [if_neg c', if_pos rfl, if_neg (show ¬ nxQ A n (co_p n C (prP C coin)) s i = true by simp [nxQ, c]), nI_a1]
        exact ihh
theorem L_mp4 {S : St} {n np A coin q : Nat} {C : Nat → Nat → Nat} (h : IvC S n np C) (F : Nat) (hF : 1000 ≤ F) (hA : A < 2 ^ n) (hA5 : A < 512) (hc : 1 ≤ coin) (hc2 : coin ≤ 1000) (hq : q < pc10 A) (hR : ∀ s, sub s A → gA S 79 0 s = nI (rs A n (co_p n C (prP C coin)) s)) (bd : ∀ s, sub s A → rs A n (co_p n C (prP C coin)) s < 1000000000) : ∀ m k x6, k ≤ q → q + 1 < k + m → fX12_plan_L204 F S (nI coin) (nI q) (nI A) m (nI (sq A n (co_p n C (prP C coin)) k)) x6 (nI k) = some (ncode (nx A n (co_p n C (prP C coin)) (sq A n (co_p n C (prP C coin)) q)), S) := by
  have h9 := h.1
  have hcc : ∀ i s, i < n → sub s A → fre A s i = true → co_p n C (prP C coin) i s ≤ 900000 := fun i s hi _ hf => co_p_le h hi hf
  have hpn : pc10 A ≤ 10 := pc10_le A
  intro m
  induction m with
  | zero => intro k x6 a b; omega
  | succ m ih =>
    intro k x6 a b
    obtain ⟨s1, s2⟩ := sq_ok hA h9 hA5 (by omega) hcc k (by omega)
    obtain ⟨j, j1, j2, j3⟩ := sq_nx hA h9 hA5 (by omega) hcc (show k < pc10 A by omega)
    simp only [fX12_plan_L204, fX12_plan_b204]
    rw [if_neg (c_nlt a (by omega))]
    refine Eq.trans (L_mp3 h F hF hA hA5 hc hc2 (nI q) (nI k) s1 hR bd _ F 0 (by omega) (by omega)) ?_
    have j1' : nf (nxQ A n (co_p n C (prP C coin)) (sq A n (co_p n C (prP C coin)) k)) (n - 0) 0 = some j := j1
    rw [j1']
    unfold fX12_plan_j295
    rw [bnd_e, show ncode (some j) = nI j from rfl, shl1 (by omega), fa_or, nI_a1, ← sq_s j1]
    by_cases e : k = q
    · subst e
      obtain ⟨m', rfl⟩ : ∃ m', m = m' + 1 := ⟨m - 1, by omega⟩
      simp only [fX12_plan_L204, fX12_plan_b204]
      rw [if_pos (c_lt (by omega) (by omega)), j1]; rfl
    · exact ih (k + 1) (nI j) (by omega) (by omega)
theorem own33 (n j : Nat) : ownA 33 n j = 99 := rfl
theorem price_p {S : St} {n np coin : Nat} {C : Nat → Nat → Nat} (h : IvC S n np C) (hc : 1 ≤ coin) (hc2 : coin ≤ 1000) (h3 : gI S 5 0 3 = nI coin) {i x : Nat} (hi : i < n) (hx : 1 ≤ x) (hx2 : x < 100000) : fX6_priceOf S (nI i) (nI x) = some (nI (prP C coin i x)) := by
  have h9 := h.1
  have hne : (!(decide (nI coin = (0 : Int32)))) = true := by
    have : ¬ nI coin = 0 := c_ne (b := 0) (by omega) (by omega) (by decide)
    simp [this]
  unfold fX6_priceOf
  rw [ix_nI (show i < 9 by omega) (by decide), gd_t, h3, hne, gd_t, cl (by omega), (h.2.2.2 i hi).2.1, show (1 : Int32) = nI 1 from rfl, nI_subn hx, nI_div (by omega) (by omega), nI_mulN]
  rfl
theorem tI_m1 {p : Int32} (h : (-1) ≤ p) : p = -1 ∨ 0 ≤ p.toInt := by
  rcases m1_or h with ⟨q, -⟩ | ⟨-, q⟩
  · exact Or.inl q
  · right
    have := (t_le _ _).mp q
    rw [show (0 : Int32).toInt = 0 by decide] at this
    exact this
theorem every_s (S : St) {n : Nat} (h : gI S 0 0 6 = nI n) (hn : n ≤ 9) : fX0_everyOne S = some (nI (2 ^ n - 1)) := by
  unfold fX0_everyOne
  rw [h, shl1 (by omega), show (1 : Int32) = nI 1 from rfl, nI_subn (Nat.one_le_two_pow)]
theorem and_full {r n : Nat} (h : r < 2 ^ n) : r &&& (2 ^ n - 1) = r := by rw [Nat.and_two_pow_sub_one_eq_mod, Nat.mod_eq_of_lt h]
theorem pow9 {n : Nat} (h : n ≤ 9) : 2 ^ n ≤ 512 := Nat.pow_le_pow_right (n := 2) (by decide) h
theorem Q_plan {S : St} {n np : Nat} {C : Nat → Nat → Nat} (h : IvC S n np C) (F : Nat) (hF : 1000 ≤ F) (p1 p2 p3 : Int32) : ∃ (r : Int32) (S1 S2 : St), fX11_plan F S p1 p2 p3 = some (r, S1) ∧ fX12_plan F S1 p1 p2 p3 = some (r, S2) ∧ Ch 99 S S2 ∧ gC S1 = gC S ∧ gC S2 = gC S := by
  have hne : ¬ (1 : Int32) = 0 := by decide
  have h9 := h.1
  have bad : fX11_plan F S p1 p2 p3 = some (-1, S) → fX12_plan F S p1 p2 p3 = some (-1, S) → ∃ (r : Int32) (S1 S2 : St), fX11_plan F S p1 p2 p3 = some (r, S1) ∧ fX12_plan F S1 p1 p2 p3 = some (r, S2) ∧ Ch 99 S S2 ∧ gC S1 = gC S ∧ gC S2 = gC S := fun a b => ⟨-1, S, S, a, b, Ch.rf _ _, rfl, rfl⟩
  rcases ar_n p1 1 1000 (by decide) 1 1000 1 1000 (by decide) (by decide) (by decide) (by decide) with ⟨c1, m1⟩ | ⟨coin, rfl, l1, u1, c1, m1⟩
  · exact bad (by simp only [fX11_plan, c1, cal_s]; rfl) (by simp only [fX12_plan, m1, cal_s]; rfl)
  rcases a_facts p2 with ⟨c2, m2⟩ | ⟨f, rfl, u2, c2, m2⟩
  · exact bad (by simp only [fX11_plan, c1, c2, cal_s, if_neg hne]; rfl) (by simp only [fX12_plan, m1, m2, cal_s, if_neg hne]; rfl)
  by_cases e3 : (-1) ≤ p3
  · obtain ⟨A, a1, a2, a3, -⟩ := Q_foundedBy h F hF (nI f)
    have hA5 : A < 512 := Nat.lt_of_lt_of_le a1 (pow9 h9)
    have hcoin : (if (1 : Int32) < nI coin then nI coin else 1) = nI coin := by
      by_cases q : 1 < coin
      · have q2 : (1 : Int32) < nI coin := c_lt (a := 1) q (by omega)
        rw [if_pos q2]
      · have : coin = 1 := by omega
        subst this; rfl
    have S0c : Ch 99 S (pI (pI S 5 0 3 (nI coin)) 5 0 2 (nI A)) := ((Ch.rf 99 S).pI _ (Or.inr rfl)).pI _ (Or.inr rfl)
    have h0 : IvC (pI (pI S 5 0 3 (nI coin)) 5 0 2 (nI A)) n np C := h.ch S0c (by decide)
    have hO : ∀ S', OffK 33 (pI (pI S 5 0 3 (nI coin)) 5 0 2 (nI A)) S' → OC_p n np C (prP C coin) A S' := fun S' o => by
      have hC := h0.off o own33
      refine ⟨hC, by rw [o.2.1, gI_ps], fun i x hi hx hx2 => ⟨price_p hC l1 u1 (by rw [o.2.1, gI_pk _ _ _ _ _ _ (show 3 ≠ 2 by decide), gI_ps]) hi hx (by omega), prP_le hx2 ?_⟩⟩
      obtain ⟨q0, q1, q2, q3, q4, q5, q6, q7, q8, q9, q10, q11, x0, x1, x2⟩ := h.2.2.2 i hi
      exact x1.2
    have hOO := hO _ (OffK.rf _ _)
    have hcc : ∀ i s, i < n → sub s A → fre A s i = true → co_p n C (prP C coin) i s ≤ 900000 := fun i s hi _ hf => hc_p hOO hi (fre_t.mp hf).2
    have bd : ∀ s, sub s A → rs A n (co_p n C (prP C coin)) s < 1000000000 := fun s hs => by
      have b := rs_bd (K := 900000) a1 hA5 (by omega) hcc (A + 1) s hs (by omega)
      have b2 : 900000 * (A - s) ≤ 900000 * 511 := Nat.mul_le_mul_left _ (by omega)
      omega
    obtain ⟨S1, r1, r2, r3⟩ := L_arr_p hO F hF a1 hA5 (fun S_6 => gd (ix 0 512) <| some (gA S_6 33 0 (0 : Int32).toNatClampNeg, S_6)) F (A + 1) _ (OffK.rf _ _) (Nat.le_refl _) (by omega) (fun s hs q => by have := sub_le hs; omega)
    have ch1 : Ch 99 S S1 := S0c.trans (r2.ch own33)
    have g1 : gC S1 = gC S := r2.2.2
    have hC1 : IvC S1 n np C := h.ch ch1 (by decide)
    have cls : fX6_arrangeBy F S (nI coin) (nI A) = some (nI (rs A n (co_p n C (prP C coin)) 0), S1) := by
      unfold fX6_arrangeBy fX5_arrange_p
      rw [bnd_e, hcoin, every_s (pI S 5 0 3 (nI coin)) (n := n) (by rw [gI_pc _ _ _ _ _ _ (show 0 ≠ 5 by decide)]; exact h.2.1) h9, cal_s, bnd_e, fa_and, and_full a1, gI_ps, bnd_e]
      have e1 : nI (A + 1) - 1 = nI A := nI_subn (a := A + 1) (b := 1) (by omega)
      rw [e1] at r1
      have r1' := r1
      rw [show ix 0 512 = true by decide, gd_t, show (0 : Int32).toNatClampNeg = 0 by decide, r3 0 (sub_0 A)] at r1'
      rw [show (fX5_arrange_p_L18 F (fun S_6 => gd (ix 0 512) <| some (gA S_6 33 0 (0 : Int32).toNatClampNeg, S_6)) F (nI A) (pI (pI S 5 0 3 (nI coin)) 5 0 2 (nI A))) = some (nI (rs A n (co_p n C (prP C coin)) 0), S1) from r1', cal_s]
    obtain ⟨A', a1', a2', a3', a4'⟩ := Q_foundedBy hC1 F hF (nI f)
    have eA : A' = A := by
      apply Nat.eq_of_testBit_eq
      intro j
      by_cases hj : j < n
      · rw [a2 j hj, a2' j hj]
      · rw [Nat.testBit_lt_two_pow (Nat.lt_of_lt_of_le a1 (Nat.pow_le_pow_right (by decide) (by omega))), Nat.testBit_lt_two_pow (Nat.lt_of_lt_of_le a1' (Nat.pow_le_pow_right (by decide) (by omega)))]
    subst eA
    have o2 : OffK 79 S1 (pA S1 79 0 A' (nI 0)) := (OffK.rf 79 S1).pA 0 A' _
    obtain ⟨S2, t1, t2, t3⟩ := L_mp2 (hC1.off o2 own79) F hF a1 hA5 l1 u1 p3 (fun S_12 => if 0 ≤ p3 then cal (fX12_bits F S_12 (nI A')) fun b_13 => if p3 < b_13 then fX12_plan_L204 F S_12 (nI coin) p3 (nI A') F 0 (-4) 0 else some ((-4), S_12) else gd (ix 0 512) <| some (gA S_12 79 0 (0 : Int32).toNatClampNeg, S_12)) F A' _ (OffK.rf _ _) (Nat.le_refl _) (by omega) (fun s hs q => by
      have := sub_le hs
      have e : s = A' := by omega
      subst e
      rw [gA_ps, rs_A])
    have ch2 : Ch 99 S1 S2 := (o2.tr t2).ch own79
    have hC2 : IvC S2 n np C := hC1.ch ch2 (by decide)
    have g2 : gC S2 = gC S := (o2.tr t2).2.2.trans g1
    have mdl : ∀ X, (if 0 ≤ p3 then cal (fX12_bits F S2 (nI A')) fun b_13 => if p3 < b_13 then fX12_plan_L204 F S2 (nI coin) p3 (nI A') F 0 (-4) 0 else some ((-4), S2) else gd (ix 0 512) <| some (gA S2 79 0 (0 : Int32).toNatClampNeg, S2)) = X → fX12_plan F S1 (nI coin) (nI f) p3 = X := fun X hX => by
      simp only [fX12_plan, m1, m2, cal_s, if_neg hne, if_pos e3, a4', ix_nI hA5 (by decide), gd_t, cl (show A' < 2147483648 by omega), bnd_e]
      exact Eq.trans t1 hX
    rcases m1_or e3 with ⟨q1, q2⟩ | ⟨q1, q2⟩
    · refine ⟨nI (rs A' n (co_p n C (prP C coin)) 0), S1, S2, ?_, mdl _ ?_, ch1.trans ch2, g1, g2⟩
      · simp only [fX11_plan, c1, c2, cal_s, if_neg hne, if_pos e3, a3, cls, if_pos q1]
      · rw [if_neg q2, show ix 0 512 = true by decide, gd_t, show (0 : Int32).toNatClampNeg = 0 by decide, t3 0 (sub_0 A')]
    · have p0 : 0 ≤ p3.toInt := by
        have := (t_le _ _).mp q2
        rw [show (0 : Int32).toInt = 0 by decide] at this; exact this
      have at1 := L_at_p (hO S1 r2) F hF a1 hA5 r3 bd p3 F 0 (Nat.zero_le _) (Nat.zero_le _) (by omega) (fun k' hk' => by omega)
      have at2 : fX5_claimAt_p F S1 p3 = _ := at1
      have hb := bits_n F S2 hF (show A' < 1024 by omega)
      have hpc := pc10_le A'
      by_cases qq : p3.toInt < pc10 A'
      · rw [if_pos ⟨qq, p0⟩] at at2
        obtain ⟨q, hq31, rfl⟩ : ∃ q : Nat, q < 2147483648 ∧ p3 = nI q := ⟨p3.toInt.toNat, by omega, (t_eq _ _).mpr (by rw [t_nI (by omega)]; omega)⟩
        rw [t_nI hq31] at qq at2
        have fin := L_mp4 (q := q) hC2 F hF a1 hA5 l1 u1 (by omega) t3 bd F 0 (-4) (by omega) (by omega)
        refine ⟨ncode (nx A' n (co_p n C (prP C coin)) (sq A' n (co_p n C (prP C coin)) q)), S1, S2, ?_, mdl _ ?_, ch1.trans ch2, g1, g2⟩
        · simp only [fX11_plan, c1, c2, cal_s, if_neg hne, if_pos e3, a3, cls, if_neg q1, at2]; rfl
        · rw [if_pos q2, hb, cal_s, if_pos (c_lt (by omega) (by omega))]
          exact fin
      · rw [if_neg (fun z => qq z.1)] at at2
        have nlt : ¬ p3 < nI (pc10 A') := fun z => by
          have := (t_lt _ _).mp z
          rw [t_nI (by omega)] at this
          omega
        refine ⟨-4, S1, S2, ?_, mdl _ ?_, ch1.trans ch2, g1, g2⟩
        · simp only [fX11_plan, c1, c2, cal_s, if_neg hne, if_pos e3, a3, cls, if_neg q1, at2]
        · rw [if_pos q2, hb, cal_s, if_neg nlt]
  · exact bad (by simp only [fX11_plan, c1, c2, cal_s, if_neg hne, if_neg e3]) (by simp only [fX12_plan, m1, m2, cal_s, if_neg hne, if_neg e3])
