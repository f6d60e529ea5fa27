/-! THE CLASS'S ORDER OF CLAIMS: written by gen_order.py -/
theorem sumM_s (w : Nat → Nat) (s i : Nat) : sumM w s (i + 1) = sumM w s i + (if s.testBit i then w i else 0) := rfl
theorem mn_s (x : Nat) (p : Nat → Bool) (f : Nat → Nat) (i : Nat) : mn x p f (i + 1) = if p i = true ∧ f i < mn x p f i then f i else mn x p f i := rfl
theorem sumM_room {w : Nat → Nat} {s n K i : Nat} (hi : s.testBit i = false) (hin : i < n) (h : ∀ j, j < n → w j ≤ K) : sumM w s n + w i ≤ K * n := by
  induction n with
  | zero => omega
  | succ n ih =>
    rw [sumM_s, Nat.mul_succ]
    by_cases e : i = n
    · subst e
      have := sumM_le (w := w) (s := s) (n := i) (K := K) (fun j hj => h j (by omega))
      have := h i (by omega)
      rw [hi]; simp; omega
    · have := ih (by omega) (fun j hj => h j (by omega))
      have := h n (by omega)
      split <;> omega
theorem ct_top {A n : Nat} (hA : A < 2 ^ n) (hn : n ≤ 10) : pc10 A = fb_ct (fun b => A.testBit b) n := by
  unfold pc10
  have : ∀ m, fb_ct (fun b => A.testBit b) (n + m) = fb_ct (fun b => A.testBit b) n := by
    intro m
    induction m with
    | zero => rfl
    | succ m ih =>
      rw [show n + (m + 1) = (n + m) + 1 from rfl, fb_ct_succ, ih, Nat.testBit_lt_two_pow (Nat.lt_of_lt_of_le hA (Nat.pow_le_pow_right (by decide) (by omega)))]; rfl
  have h2 := this (10 - n)
  rw [show n + (10 - n) = 10 by omega] at h2
  exact h2

/-- what the hearings order needs of a state -/
def OC_h (n np : Nat) (C : Nat → Nat → Nat) (pr : Nat → Nat → Nat) (A : Nat) (S : St) : Prop := IvC S n np C ∧ gI S 2 0 2 = nI A ∧ ∀ i x, i < n → 1 ≤ x → x ≤ 9000 → fX2_priceOf S (nI i) (nI x) = some (nI (pr i x)) ∧ pr i x ≤ 900000
theorem len_h {S : St} {n np : Nat} {C : Nat → Nat → Nat} (h : IvC S n np C) {i : Nat} (hi : i < n) : fX2_lengthOf S (nI i) = some (nI (C 3 i)) ∧ 1 ≤ C 3 i ∧ C 3 i ≤ 1000 := by
  obtain ⟨q0, q1, q2, q3, q4, q5, q6, q7, q8, q9, q10, q11, x0, x1, x2, x3, x4, x5, x6⟩ := h.2.2.2 i hi
  have := h.1
  refine ⟨?_, by omega, by omega⟩
  unfold fX2_lengthOf
  rw [ix_nI (show i < 9 by omega) (by decide), gd_t, cl (by omega), q3]
theorem L_len_h {S : St} {n np : Nat} {C : Nat → Nat → Nat} (h : IvC S n np C) (F : Nat) {s : Nat} (hs : s < 512) : ∀ m i, i ≤ n → n < i + m → fX5_lengthOfAll_h_L4 F S (nI s) m (nI (sumM (C 3) s i)) (nI i) = some (nI (sumM (C 3) s n)) := by
  have h9 := h.1
  have hne : ¬ (1 : Int32) = 0 := by decide
  intro m
  induction m with
  | zero => intro i a b; omega
  | succ m ih =>
    intro i a b
    simp only [fX5_lengthOfAll_h_L4, fX5_lengthOfAll_h_b4, h.2.1]
    by_cases e : i = n
    · subst e; rw [if_pos (c_le (Nat.le_refl _) (by omega))]
    · have ihh := ih (i + 1) (by omega) (by omega)
      rw [if_neg (c_nle (by omega) (by omega)), hb_c, hb_nI (by omega) (by omega), cal_s]
      rw [sumM_s] at ihh
      by_cases c : s.testBit i = true
      · rw [if_pos c] at ihh ⊢
        rw [if_neg hne, (len_h h (by omega)).1, cal_s, bnd_e, nI_add, nI_a1]
        exact ihh
      · rw [if_neg c] at ihh ⊢
        rw [if_pos rfl, nI_a1]
        exact ihh
theorem Q_len_h {S : St} {n np : Nat} {C : Nat → Nat → Nat} (h : IvC S n np C) (F : Nat) (hF : 1000 ≤ F) {s : Nat} (hs : s < 512) : fX5_lengthOfAll_h F S (nI s) = some (nI (sumM (C 3) s n)) := L_len_h h F hs F 0 (by omega) (by have := h.1; omega)
def co_h (n : Nat) (C pr : Nat → Nat → Nat) (i s : Nat) : Nat := pr i (sumM (C 3) s n + C 3 i)
theorem with_h {S : St} {n np A : Nat} {C pr : Nat → Nat → Nat} (h : OC_h n np C pr A S) {i s : Nat} (hi : i < n) (hf : s.testBit i = false) (hs : s < 512) {r : Nat} (hr : gA S 19 0 (s ||| 2 ^ i) = nI r) : fX5_restWith_h S (nI i) (nI s) (nI (sumM (C 3) s n)) = some (nI (co_h n C pr i s + r)) ∧ co_h n C pr i s ≤ 900000 := by
  have h9 := h.1.1
  have l := len_h h.1 hi
  have sl := sumM_room (w := C 3) (s := s) (n := n) (K := 1000) hf hi (fun j hj => (len_h h.1 hj).2.2)
  have sl2 : 1000 * n ≤ 9000 := by omega
  have p := h.2.2 i (sumM (C 3) s n + C 3 i) hi (by omega) (by omega)
  refine ⟨?_, p.2⟩
  have ho : s ||| 2 ^ i < 512 := or_lt (i := 9) hs (Nat.pow_lt_pow_right (by decide) (by omega))
  unfold fX5_restWith_h
  rw [l.1, cal_s, nI_add, p.1, cal_s, shl1 (by omega), fa_or, ix_nI ho (by decide), gd_t, cl (by omega), hr, nI_add]
  rfl
theorem L_cheap_h {S : St} {n np A : Nat} {C pr : Nat → Nat → Nat} (h : OC_h n np C pr A S) (F : Nat) {s x : Nat} (hA5 : A < 512) (hs : s < 512) (hx : x ≤ 1000000000) {R : Nat → Nat} (hR : ∀ i, i < n → fre A s i = true → gA S 19 0 (s ||| 2 ^ i) = nI (R (s ||| 2 ^ i)) ∧ R (s ||| 2 ^ i) < 1000000000) : ∀ m i, i ≤ n → n < i + m → fX5_cheapestRest_h_L24 F S (nI s) (nI (sumM (C 3) s n)) m (nI (mn x (fre A s) (fun i => co_h n C pr i s + R (s ||| 2 ^ i)) i)) (nI i) = some (nI (mn x (fre A s) (fun i => co_h n C pr i s + R (s ||| 2 ^ i)) n)) := by
  have h9 := h.1.1
  have hne : ¬ (1 : Int32) = 0 := by decide
  intro m
  induction m with
  | zero => intro i a b; omega
  | succ m ih =>
    intro i a b
    simp only [fX5_cheapestRest_h_L24, fX5_cheapestRest_h_b24, h.1.2.1, h.2.1]
    by_cases e : i = n
    · subst e; rw [if_pos (c_le (Nat.le_refl _) (by omega))]
    · have ihh := ih (i + 1) (by omega) (by omega)
      have ml := mis_le A s
      rw [if_neg (c_nle (by omega) (by omega)), mis_I, hb_c, hb_nI (by omega) (by omega), mis_t A s (by omega), cal_s]
      have hm := (mn_le (x := x) (p := fre A s) (f := fun i => co_h n C pr i s + R (s ||| 2 ^ i)) (n := i)).1
      rw [mn_s] at ihh
      by_cases c : fre A s i = true
      · have c' : (A.testBit i && !s.testBit i) = true := c
        obtain ⟨g1, g2⟩ := hR i (by omega) c
        obtain ⟨w1, w2⟩ := with_h h (show i < n by omega) (fre_t.mp c).2 hs g1
        rw [if_pos c', if_neg hne, w1, cal_s, bnd_e, nI_a1]
        by_cases d : co_h n C pr i s + R (s ||| 2 ^ i) < mn x (fre A s) (fun i => co_h n C pr i s + R (s ||| 2 ^ i)) i
        · rw [if_pos (c_lt d (by omega))]
          rw [if_pos ⟨c, d⟩] at ihh; exact ihh
        · rw [if_neg (c_nlt (by omega) (by omega))]
          rw [if_neg (fun z => d z.2)] at ihh; exact ihh
      · have c' : ¬ (A.testBit i && !s.testBit i) = true := c
        rw [if_neg c', if_pos rfl, nI_a1]
        rw [if_neg (fun z => c z.1)] at ihh; exact ihh
theorem cheap_h {S : St} {n np A : Nat} {C pr : Nat → Nat → Nat} (h : OC_h n np C pr A S) (F : Nat) (hF : 1000 ≤ F) {s : Nat} (hA5 : A < 512) (hs : s < 512) {R : Nat → Nat} (hR : ∀ i, i < n → fre A s i = true → gA S 19 0 (s ||| 2 ^ i) = nI (R (s ||| 2 ^ i)) ∧ R (s ||| 2 ^ i) < 1000000000) : fX5_cheapestRest_h F S (nI s) = some (nI (mn (if s = A then 0 else 1000000000) (fre A s) (fun i => co_h n C pr i s + R (s ||| 2 ^ i)) n)) := by
  have h9 := h.1.1
  unfold fX5_cheapestRest_h fX5_cheapestRest_h_j14
  rw [h.2.1, Q_len_h h.1 F hF hs, cal_s, cal_s]
  by_cases e : s = A
  · rw [if_pos (show nI s = nI A by rw [e]), if_pos e]
    exact L_cheap_h h F (x := 0) hA5 hs (by omega) hR F 0 (by omega) (by omega)
  · rw [if_neg (c_ne e (by omega) (by omega)), if_neg e]
    exact L_cheap_h h F (x := 1000000000) hA5 hs (by omega) hR F 0 (by omega) (by omega)
theorem hc_h {S : St} {n np A : Nat} {C pr : Nat → Nat → Nat} (h : OC_h n np C pr A S) {i s : Nat} (hi : i < n) (hf : s.testBit i = false) : co_h n C pr i s ≤ 900000 := by
  have h9 := h.1.1
  have l := len_h h.1 hi
  have sl := sumM_room (w := C 3) (s := s) (n := n) (K := 1000) hf hi (fun j hj => (len_h h.1 hj).2.2)
  have sl2 : 1000 * n ≤ 9000 := by omega
  exact (h.2.2 i (sumM (C 3) s n + C 3 i) hi (by omega) (by omega)).2
theorem L_arr_h {S0 : St} {n np A : Nat} {C pr : Nat → Nat → Nat} (hO : ∀ S, OffK 19 S0 S → OC_h n np C pr A S) (F : Nat) (hF : 1000 ≤ F) (hA : A < 2 ^ n) (hA5 : A < 512) (k : St → Option (Int32 × St)) : ∀ m j S, OffK 19 S0 S → j ≤ A + 1 → j < m → (∀ s, sub s A → j ≤ s → gA S 19 0 s = nI (rs A n (co_h n C pr) s)) → ∃ S', fX5_arrange_h_L18 F k m (nI j - 1) S = k S' ∧ OffK 19 S0 S' ∧ ∀ s, sub s A → gA S' 19 0 s = nI (rs A n (co_h n C pr) s) := by
  intro m
  induction m with
  | zero => intro j S _ _ h; omega
  | succ m ih =>
    intro j S o hj hm hr
    have h := hO S o
    simp only [fX5_arrange_h_L18, fX5_arrange_h_b18]
    cases j with
    | zero =>
      rw [if_pos (show nI 0 - 1 < 0 by decide)]
      exact ⟨S, rfl, o, fun s hs => hr s hs (by omega)⟩
    | succ j =>
      have e1 : nI (j + 1) - 1 = nI j := nI_subn (a := j + 1) (b := 1) (by omega)
      have em : nI j + -1 = nI j - 1 := by rw [Int32.sub_eq_add_neg]
      rw [e1, if_neg (nI_pos (by omega)), h.2.1, mis_I, em]
      by_cases c : sub j A
      · have c0 : mis j A = 0 := (sub_mis (by omega)).mpr c
        have cc : nI (mis j A) = 0 := by rw [c0]; rfl
        have bd : ∀ s, sub s A → rs A n (co_h n C pr) s < 1000000000 := fun s hs => by
          have b := rs_bd (K := 900000) hA hA5 (by omega) (c := co_h n C pr) (fun i s hi _ hf => hc_h h hi (fre_t.mp hf).2) (A + 1) s hs (by omega)
          have b2 : 900000 * (A - s) ≤ 900000 * 511 := Nat.mul_le_mul_left _ (by omega)
          omega
        have ch := cheap_h h F hF hA5 (show j < 512 by omega) (R := rs A n (co_h n C pr)) (fun i hi hf => by
          obtain ⟨p1, p2⟩ := fre_t.mp hf
          have g := or_gt p2
          exact ⟨hr _ (or_sub c p1) (by omega), bd _ (or_sub c p1)⟩)
        rw [← rs_eq c] at ch
        rw [if_pos cc, ch, cal_s, ix_nI (show j < 512 by omega) (by decide), gd_t, cl (by omega), bnd_e]
        exact ih j _ (o.pA 0 j _) (by omega) (by omega) (fun s hs hjs => by
          by_cases es : s = j
          · subst es; rw [gA_ps]
          · rw [gA_pi _ _ _ _ _ _ es]; exact hr s hs (by omega))
      · have c0 : ¬ mis j A = 0 := fun z => c ((sub_mis (by omega)).mp z)
        have ml := mis_le j A
        have cc : ¬ nI (mis j A) = 0 := c_ne (b := 0) c0 (by omega) (by decide)
        rw [if_neg cc]
        exact ih j S o (by omega) (by omega) (fun s hs hjs => by
          by_cases es : s = j
          · subst es; exact absurd hs c
          · exact hr s hs (by omega))
theorem L_next_h {S : St} {n np A : Nat} {C pr : Nat → Nat → Nat} (h : OC_h n np C pr A S) (F : Nat) {s : Nat} (hA : A < 2 ^ n) (hA5 : A < 512) (hs : sub s A) (hR : ∀ s, sub s A → gA S 19 0 s = nI (rs A n (co_h n C pr) s)) (bd : ∀ s, sub s A → rs A n (co_h n C pr) s < 1000000000) : ∀ m i, i ≤ n → n < i + m → fX5_nextOf_h_L8 F S (nI s) (nI (sumM (C 3) s n)) m (nI i) = some (ncode (nf (nxQ A n (co_h n C pr) s) (n - i) i)) := by
  have h9 := h.1.1
  have hne : ¬ (1 : Int32) = 0 := by decide
  have hsl := sub_le hs
  intro m
  induction m with
  | zero => intro i a b; omega
  | succ m ih =>
    intro i a b
    simp only [fX5_nextOf_h_L8, fX5_nextOf_h_b8, h.1.2.1, h.2.1]
    by_cases e : i = n
    · subst e; rw [if_pos (c_le (Nat.le_refl _) (by omega)), Nat.sub_self]; rfl
    · have ihh := ih (i + 1) (by omega) (by omega)
      have ml := mis_le A s
      rw [if_neg (c_nle (by omega) (by omega)), mis_I, hb_c, hb_nI (by omega) (by omega), mis_t A s (by omega), cal_s, show n - i = (n - (i + 1)) + 1 by omega, nf]
      by_cases c : fre A s i = true
      · have c' : (A.testBit i && !s.testBit i) = true := c
        obtain ⟨p1, p2⟩ := fre_t.mp c
        obtain ⟨w1, w2⟩ := with_h h (show i < n by omega) p2 (show s < 512 by omega) (hR _ (or_sub hs p1))
        have b1 := bd _ (or_sub hs p1)
        have b2 := bd _ hs
        rw [if_pos c', if_neg hne, w1, cal_s, ix_nI (show s < 512 by omega) (by decide), gd_t, cl (by omega), hR s hs]
        by_cases d : co_h n C pr i s + rs A n (co_h n C pr) (s ||| 2 ^ i) = rs A n (co_h n C pr) s
        · rw [if_pos (show nI (co_h n C pr i s + rs A n (co_h n C pr) (s ||| 2 ^ i)) = nI (rs A n (co_h n C pr) s) by rw [d]), if_pos (show nxQ A n (co_h n C pr) s i = true by simp [nxQ, c, d])]
          rfl
        · rw [if_neg (c_ne d (by omega) (by omega)), if_neg (show ¬ nxQ A n (co_h n C pr) s i = true by simp [nxQ, d]), nI_a1]
          exact ihh
      · have c' : ¬ (A.testBit i && !s.testBit i) = true := c
        rw [if_neg c', if_pos rfl, if_neg (show ¬ nxQ A n (co_h n C pr) s i = true by simp [nxQ, c]), nI_a1]
        exact ihh
theorem next_h {S : St} {n np A : Nat} {C pr : Nat → Nat → Nat} (h : OC_h n np C pr A S) (F : Nat) (hF : 1000 ≤ F) {s : Nat} (hA : A < 2 ^ n) (hA5 : A < 512) (hs : sub s A) (hR : ∀ s, sub s A → gA S 19 0 s = nI (rs A n (co_h n C pr) s)) (bd : ∀ s, sub s A → rs A n (co_h n C pr) s < 1000000000) : fX5_nextOf_h F S (nI s) = some (ncode (nx A n (co_h n C pr) s)) := by
  have h9 := h.1.1
  have hsl := sub_le hs
  unfold fX5_nextOf_h
  rw [Q_len_h h.1 F hF (by omega), cal_s]
  exact L_next_h h F hA hA5 hs hR bd F 0 (by omega) (by omega)
theorem L_at_h {S : St} {n np A : Nat} {C pr : Nat → Nat → Nat} (h : OC_h n np C pr A S) (F : Nat) (hF : 1000 ≤ F) (hA : A < 2 ^ n) (hA5 : A < 512) (hR : ∀ s, sub s A → gA S 19 0 s = nI (rs A n (co_h n C pr) s)) (bd : ∀ s, sub s A → rs A n (co_h n C pr) s < 1000000000) (p : Int32) : ∀ m k, k ≤ pc10 A → k ≤ n → n < k + m → (∀ k', k' < k → nI k' ≠ p) → fX5_claimAt_h_L4 F S p m (nI (sq A n (co_h n C pr) k)) (nI k) = some (if p.toInt < pc10 A ∧ 0 ≤ p.toInt then ncode (nx A n (co_h n C pr) (sq A n (co_h n C pr) p.toInt.toNat)) else -4) := by
  have h9 := h.1.1
  have hcc : ∀ i s, i < n → sub s A → fre A s i = true → co_h n C pr i s ≤ 900000 := fun i s hi _ hf => hc_h h hi (fre_t.mp hf).2
  have hpn : pc10 A ≤ 10 := pc10_le A
  intro m
  induction m with
  | zero => intro k a b c; omega
  | succ m ih =>
    intro k a b c d
    have dd : ∀ q : Nat, q < 1000 → p.toInt = q → p = nI q := fun q hq e => (t_eq _ _).mpr (by rw [t_nI (by omega)]; exact e)
    have big : k = pc10 A ∨ n ≤ k → ¬ (p.toInt < pc10 A ∧ 0 ≤ p.toInt) ∨ k < pc10 A := fun z => by
      by_cases e : p.toInt < pc10 A ∧ 0 ≤ p.toInt
      · right
        have e2 := dd p.toInt.toNat (by omega) (by omega)
        have : ¬ p.toInt.toNat < k := fun q => d _ q e2.symm
        omega
      · exact Or.inl e
    simp only [fX5_claimAt_h_L4, fX5_claimAt_h_b4, h.1.2.1]
    obtain ⟨s1, s2⟩ := sq_ok hA h9 hA5 (by omega) hcc k a
    by_cases e : k = n
    · subst e
      rw [if_pos (c_le (Nat.le_refl _) (by omega))]
      rcases big (Or.inr (Nat.le_refl _)) with q | q
      · rw [if_neg q]
      · obtain ⟨j, j1, j2, j3⟩ := sq_nx hA h9 hA5 (by omega) hcc q
        have hlt : pc10 A ≤ k := by
          have := fb_ct_le (fun b => A.testBit b) k
          have h2 : pc10 A = fb_ct (fun b => A.testBit b) k := ct_top hA (by omega)
          omega
        omega
    · rw [if_neg (c_nle (by omega) (by omega)), next_h h F hF hA hA5 s1 hR bd, cal_s]
      by_cases q : k = pc10 A
      · have hq : sq A n (co_h n C pr) k = A := by rw [q]; exact sq_end hA h9 hA5 (by omega) hcc
        rw [hq, nx_A]
        rw [if_pos (show ncode none < 0 by decide)]
        rcases big (Or.inl q) with z | z
        · rw [if_neg z]; rfl
        · omega
      · obtain ⟨j, j1, j2, j3⟩ := sq_nx hA h9 hA5 (by omega) hcc (show k < pc10 A by omega)
        rw [j1]
        have n0 : ¬ ncode (some j) < 0 := nI_pos (by omega)
        rw [if_neg n0]
        by_cases ep : nI k = p
        · rw [if_pos ep]
          have : p.toInt = k := by rw [← ep, t_nI (by omega)]
          rw [if_pos (by omega), this, show ((k : Int).toNat) = k from rfl, j1]
        · rw [if_neg ep, bnd_e, show (ncode (some j) : Int32) = nI j from rfl, shl1 (by omega), fa_or, nI_a1, ← sq_s j1]
          exact ih (k + 1) (by omega) (by omega) (by omega) (fun k' hk' => by
            by_cases ek : k' = k
            · subst ek; exact ep
            · exact d k' (by omega))
