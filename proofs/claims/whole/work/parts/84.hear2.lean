theorem sub_full {n s : Nat} (h : s < 2 ^ n) : sub s (2 ^ n - 1) := by
  intro i hi
  rw [Nat.testBit_two_pow_sub_one]
  apply Decidable.byContradiction
  intro q
  have : ¬ i < n := fun z => q (by simp [z])
  rw [Nat.testBit_lt_two_pow (Nat.lt_of_lt_of_le h (Nat.pow_le_pow_right (by decide) (by omega)))] at hi
  exact absurd hi (by decide)
theorem L_mh2 {S0 : St} {n np A y : Nat} {C P : Nat → Nat → Nat} (h0 : IvC S0 n np C) (hp0 : IvP S0 np P) (F : Nat) (hF : 1000 ≤ F) (hA : A = 2 ^ n - 1) (hA5 : A < 512) (hy : y ≤ 200) (p2 : Int32) (k : St → Option (Int32 × St)) (hcc : ∀ i s, i < n → sub s A → fre A s i = true → co_h n C (prH C P y) i s ≤ 100) (hW : ∀ s, sub s A → rs A n (co_h n C (prH C P y)) s ≤ Wm A n C s) : ∀ m j S, OffK 79 S0 S → j ≤ A → j < m → (∀ s, sub s A → j ≤ s → gA S 79 0 s = nI (Wm A n C s - rs A n (co_h n C (prH C P y)) s)) → ∃ S', fX12_hear_L35 F (nI y) p2 k m (nI j - 1) S = k S' ∧ OffK 79 S0 S' ∧ ∀ s, sub s A → gA S' 79 0 s = nI (Wm A n C s - rs A n (co_h n C (prH C P y)) s) := by
  have hA2 : A < 2 ^ n := by have := Nat.two_pow_pos n; omega
  intro m
  induction m with
  | zero => intro j S _ _ h; omega
  | succ m ih =>
    intro j S o hj hm hr
    have h := h0.off o own79
    have hp := hp0.off o own79
    simp only [fX12_hear_L35, fX12_hear_b35]
    cases j with
    | zero =>
      rw [if_pos (show nI 0 - 1 < 0 by decide)]
      exact ⟨S, rfl, o, fun s hs => hr s hs (by omega)⟩
    | succ j =>
      have e1 : nI (j + 1) - 1 = nI j := nI_subn (a := j + 1) (b := 1) (by omega)
      have em : nI j + -1 = nI j - 1 := by rw [Int32.sub_eq_add_neg]
      have c : sub j A := by rw [hA]; exact sub_full (by omega)
      have hnA : j ≠ A := by omega
      rw [e1, if_neg (nI_pos (by omega)), em]
      have o1 : OffK 79 S (pA S 79 0 j (-1)) := (OffK.rf 79 S).pA 0 j _
      obtain ⟨S1, r1, r2, r3, r4⟩ := L_mh1 F hF hA hA5 (show j < 512 by omega) hy p2 (fun S_10 => fX12_hear_L35 F (nI y) p2 k m (nI j - 1) S_10) (R := rs A n (co_h n C (prH C P y))) c (fun i hi hf => hW _ (or_sub c (fre_t.mp hf).1)) F 0 (pA S 79 0 j (-1)) (by omega) (by have := h0.1; omega) (h.off o1 own79) (hp.off o1 own79) (fun i hi hf => by
        obtain ⟨p1, p2⟩ := fre_t.mp hf
        have g := or_gt p2
        rw [gA_pi _ _ _ _ _ _ (show j ||| 2 ^ i ≠ j by omega)]
        exact hr _ (or_sub c p1) (by omega)) (by rw [gA_ps]; rfl)
      have ra := rs_at (K := 100) hA2 hA5 (by omega) hcc c hnA
      have v : mn 1000000000 (fre A j) (fun i => co_h n C (prH C P y) i j + rs A n (co_h n C (prH C P y)) (j ||| 2 ^ i)) n = rs A n (co_h n C (prH C P y)) j := by
        have q := rs_eq (n := n) (c := co_h n C (prH C P y)) c
        rw [if_neg hnA] at q
        exact q.symm
      rw [v, mxv, if_neg (by omega)] at r4
      obtain ⟨S', q1, q2, q3⟩ := ih j S1 (o.tr (o1.tr r2)) (by omega) (by omega) (fun s hs hjs => by
        by_cases es : s = j
        · subst es; exact r4
        · rw [r3 s es, gA_pi _ _ _ _ _ _ es]; exact hr s hs (by omega))
      refine ⟨S', ?_, q2, q3⟩
      rw [ix_nI (show j < 512 by omega) (by decide), gd_t, cl (by omega), bnd_e]
      exact Eq.trans r1 q1
theorem L_mh3 {S : St} {n np A y s : Nat} {C P : Nat → Nat → Nat} (h : IvC S n np C) (hp : IvP S np P) (F : Nat) (hF : 1000 ≤ F) (hA : A = 2 ^ n - 1) (hA5 : A < 512) (hy : y ≤ 200) (p2 x6 : Int32) (hs : sub s A) (hR : ∀ s, sub s A → gA S 79 0 s = nI (Wm A n C s - rs A n (co_h n C (prH C P y)) s)) (hW : ∀ s, sub s A → rs A n (co_h n C (prH C P y)) s ≤ Wm A n C s) (k : Int32 → Option (Int32 × St)) : ∀ m i, i ≤ n → n + 1 < i + m → fX12_hear_L182 F S (nI y) p2 (nI s) x6 k m (-4) (nI i) = k (ncode (nf (nxQ A n (co_h n C (prH C P y)) s) (n - i) i)) := by
  have h9 := h.1
  have hne : ¬ (1 : Int32) = 0 := by decide
  have hsl := sub_le hs
  have hWl : ∀ s, Wm A n C s ≤ 100 * n := fun s => sumM_le (fun j hj => by
      obtain ⟨q0, q1, q2, q3, q4, q5, q6, q7, q8, q9, q10, q11, x0, x1, x2⟩ := h.2.2.2 j hj
      exact x1.2)
  intro m
  induction m with
  | zero => intro i a b; omega
  | succ m ih =>
    intro i a b
    simp only [fX12_hear_L182, fX12_hear_b182, h.2.2.1]
    by_cases e : i = n
    · subst e; rw [if_pos (c_le (Nat.le_refl _) (by omega)), Nat.sub_self]; rfl
    · have ihh := ih (i + 1) (by omega) (by omega)
      have hAi : A.testBit i = true := by rw [hA, Nat.testBit_two_pow_sub_one]; simp; omega
      rw [if_neg (c_nle (by omega) (by omega)), if_true, hb_m, hb_nI (by omega) (by omega), cal_s, show n - i = (n - (i + 1)) + 1 by omega, nf]
      by_cases c : s.testBit i = true
      · have c' : ¬ fre A s i = true := fun z => by rw [(fre_t.mp z).2] at c; exact absurd c (by decide)
        rw [if_pos c, if_neg hne, if_neg (show ¬ nxQ A n (co_h n C (prH C P y)) s i = true by simp [nxQ, c']), nI_a1]
        exact ihh
      · have c' : fre A s i = true := fre_t.mpr ⟨hAi, by simpa using c⟩
        obtain ⟨p1, p2'⟩ := fre_t.mp c'
        have ws := Wm_s (C := C) h9 (show i < n by omega) c'
        have cw : co_h n C (prH C P y) i s ≤ C 1 i := prH_le
        have w1 := hW _ (or_sub hs p1)
        have w2 := hW _ hs
        have wl := hWl s
        have ho : s ||| 2 ^ i < 512 := or_lt (i := 9) (by omega) (Nat.pow_lt_pow_right (by decide) (by omega))
        have ev : C 1 i - co_h n C (prH C P y) i s + (Wm A n C (s ||| 2 ^ i) - rs A n (co_h n C (prH C P y)) (s ||| 2 ^ i)) = Wm A n C s - (co_h n C (prH C P y) i s + rs A n (co_h n C (prH C P y)) (s ||| 2 ^ i)) := by omega
        rw [if_neg c, if_pos rfl, heard_s h hp hy F hF (by omega) (by omega), cal_s, shl1 (by omega), fa_or, ix_nI ho (by decide), gd_t, ix_nI (show s < 512 by omega) (by decide), gd_t, cl (show s ||| 2 ^ i < 2147483648 by omega), cl (show s < 2147483648 by omega), hR s hs, hR _ (or_sub hs p1), nI_add, ev]
        by_cases d : co_h n C (prH C P y) i s + rs A n (co_h n C (prH C P y)) (s ||| 2 ^ i) = rs A n (co_h n C (prH C P y)) s
        · rw [if_pos (show nI (Wm A n C s - (co_h n C (prH C P y) i s + rs A n (co_h n C (prH C P y)) (s ||| 2 ^ i))) = nI (Wm A n C s - rs A n (co_h n C (prH C P y)) s) by rw [d]), if_pos (show nxQ A n (co_h n C (prH C P y)) s i = true by simp [nxQ, c', d]), nI_a1]
          obtain ⟨m', rfl⟩ : ∃ m', m = m' + 1 := ⟨m - 1, by omega⟩
          simp only [fX12_hear_L182, fX12_hear_b182, h.2.2.1]
          rw [if_neg (ne4 (by omega))]
          exact ite_self _
        · rw [if_neg (c_ne (by omega) (by omega) (by omega)), if_neg (show ¬ nxQ A n (co_h n C (prH C P y)) s i = true by simp [nxQ, d]), nI_a1]
          exact ihh
theorem L_mh4 {S : St} {n np A y q : Nat} {C P : Nat → Nat → Nat} (h : IvC S n np C) (hp : IvP S np P) (F : Nat) (hF : 1000 ≤ F) (hA : A = 2 ^ n - 1) (hA5 : A < 512) (hy : y ≤ 200) (hq : q < pc10 A) (hcc : ∀ i s, i < n → sub s A → fre A s i = true → co_h n C (prH C P y) i s ≤ 100) (hR : ∀ s, sub s A → gA S 79 0 s = nI (Wm A n C s - rs A n (co_h n C (prH C P y)) s)) (hW : ∀ s, sub s A → rs A n (co_h n C (prH C P y)) s ≤ Wm A n C s) : ∀ m k x5, k ≤ q → q + 1 < k + m → fX12_hear_L169 F S (nI y) (nI q) m (nI (sq A n (co_h n C (prH C P y)) k)) x5 (nI k) = some (ncode (nx A n (co_h n C (prH C P y)) (sq A n (co_h n C (prH C P y)) q)), S) := by
  have h9 := h.1
  have hA2 : A < 2 ^ n := by have := Nat.two_pow_pos n; omega
  have hpn : pc10 A ≤ 10 := pc10_le A
  intro m
  induction m with
  | zero => intro k x6 a b; omega
  | succ m ih =>
    intro k x6 a b
    obtain ⟨s1, s2⟩ := sq_ok (K := 100) hA2 h9 hA5 (by omega) hcc k (by omega)
    obtain ⟨j, j1, j2, j3⟩ := sq_nx (K := 100) hA2 h9 hA5 (by omega) hcc (show k < pc10 A by omega)
    simp only [fX12_hear_L169, fX12_hear_b169]
    rw [if_neg (c_nlt a (by omega))]
    refine Eq.trans (L_mh3 h hp F hF hA hA5 hy (nI q) (nI k) s1 hR hW _ F 0 (by omega) (by omega)) ?_
    have j1' : nf (nxQ A n (co_h n C (prH C P y)) (sq A n (co_h n C (prH C P y)) k)) (n - 0) 0 = some j := j1
    rw [j1']
    unfold fX12_hear_j255
    rw [bnd_e, show ncode (some j) = nI j from rfl, shl1 (by omega), fa_or, nI_a1, ← sq_s j1]
    by_cases e : k = q
    · subst e
      obtain ⟨m', rfl⟩ : ∃ m', m = m' + 1 := ⟨m - 1, by omega⟩
      simp only [fX12_hear_L169, fX12_hear_b169]
      rw [if_pos (c_lt (by omega) (by omega)), j1]; rfl
    · exact ih (k + 1) (nI j) (by omega) (by omega)
theorem own19 (n j : Nat) : ownA 19 n j = 99 := rfl
theorem L_allW {S : St} {n np : Nat} {C : Nat → Nat → Nat} (h : IvC S n np C) (F : Nat) : ∀ m i, i ≤ n → n < i + m → fX0_allWeights_L4 F S m (nI (sumM (C 1) (2 ^ n - 1) i)) (nI i) = some (nI (sumM (C 1) (2 ^ n - 1) n)) := by
  have h9 := h.1
  intro m
  induction m with
  | zero => intro i a b; omega
  | succ m ih =>
    intro i a b
    simp only [fX0_allWeights_L4, fX0_allWeights_b4, h.2.1]
    by_cases e : i = n
    · subst e; rw [if_pos (c_le (Nat.le_refl _) (by omega))]
    · have ihh := ih (i + 1) (by omega) (by omega)
      rw [sumM_s, Nat.testBit_two_pow_sub_one, decide_eq_true (show i < n by omega), if_pos rfl] at ihh
      rw [if_neg (c_nle (by omega) (by omega)), ix_nI (show i < 9 by omega) (by decide), gd_t, cl (by omega), (h.2.2.2 i (by omega)).2.1, bnd_e, nI_add, nI_a1]
      exact ihh
theorem pc_full : ∀ n : Fin 10, pc10 (2 ^ n.val - 1) = n.val := by decide
