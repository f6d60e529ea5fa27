/-! HEAR -/
def prH (C P : Nat → Nat → Nat) (y i x : Nat) : Nat := if P 1 (C 2 i) ≤ y + x - 1 then C 1 i else 0
theorem prH_le {C P : Nat → Nat → Nat} {y i x : Nat} : prH C P y i x ≤ C 1 i := by
  unfold prH; split <;> omega
theorem P1_lt {S : St} {n : Nat} {P : Nat → Nat → Nat} (h : IvP S n P) {i : Nat} (hi : i < n) : P 1 i ≤ 1000000 := by
  obtain ⟨q0, q1, q2, q3, q4, q5, q6, q7, q8, q9, q10, x0, x1, x2⟩ := h.2.2.2 i hi
  omega
theorem price_h {S : St} {n np y : Nat} {C P : Nat → Nat → Nat} (h : IvC S n np C) (hp : IvP S np P) (hy : y ≤ 200) (h4 : gI S 2 0 4 = nI y) {i x : Nat} (hi : i < n) (hx : 1 ≤ x) (hx2 : x ≤ 9000) : fX2_priceOf S (nI i) (nI x) = some (nI (prH C P y i x)) := by
  have h9 := h.1
  have h30 := hp.1
  obtain ⟨q0, q1, q2, q3, q4, q5, q6, q7, q8, q9, q10, q11, x0, x1, x2, x3⟩ := h.2.2.2 i hi
  have d := P1_lt hp x2
  have pd := (hp.2.2.2 (C 2 i) x2).2.1
  unfold fX2_priceOf fX7_isDead
  rw [ix_nI (show i < 9 by omega) (by decide), gd_t, cl (by omega), q2, ix_nI (show C 2 i < 30 by omega) (by decide), gd_t, cl (show C 2 i < 2147483648 by omega), pd, h4, nI_add, show (1 : Int32) = nI 1 from rfl, nI_subn (by omega)]
  unfold prH
  by_cases e : P 1 (C 2 i) ≤ y + x - 1
  · rw [if_neg (c_nlt e (by omega)), cal_s, if_neg (show ¬ nI 1 = 0 by decide), gd_t, q1, if_pos e]
  · rw [if_pos (c_lt (by omega) (by omega)), cal_s, if_pos rfl, if_neg e]; rfl
theorem heard_s {S : St} {n np y : Nat} {C P : Nat → Nat → Nat} (h : IvC S n np C) (hp : IvP S np P) (hy : y ≤ 200) (F : Nat) (hF : 1000 ≤ F) {s i : Nat} (hs : s < 512) (hi : i < n) : fX12_heard F S (nI s) (nI i) (nI y) = some (nI (C 1 i - co_h n C (prH C P y) i s)) := by
  have h9 := h.1
  have h30 := hp.1
  obtain ⟨a1, a2, a3, a4⟩ := c6 h hi 3 (by decide)
  obtain ⟨b1, b2, b3, b4⟩ := c6 h hi 2 (by decide)
  obtain ⟨d1, d2, d3, d4⟩ := c6 h hi 1 (by decide)
  obtain ⟨q0, q1, q2, q3, q4, q5, q6, q7, q8, q9, q10, q11, x0, x1, x2, x3⟩ := h.2.2.2 i hi
  have d := P1_lt hp x2
  have pd := (hp.2.2.2 (C 2 i) x2).2.2.2.2.2.2.2.1
  have sl : sumM (C 3) s n ≤ 1000 * n := sumM_le (fun j hj => (len_h h hj).2.2)
  have s5 : fX12_sumOf F S (nI s) 3 = some (nI (sumM (C 3) s n)) := sumOf_s h F hF hs (f := 3) (by decide)
  unfold fX12_heard
  rw [s5, cal_s, show (3 : Int32) = nI 3 from rfl, show (2 : Int32) = nI 2 from rfl, show (1 : Int32) = nI 1 from rfl, a1, a2, gd_t, a3, a4, nI_add, nI_add, nI_subn (by omega), bnd_e, b1, b2, gd_t, b3, b4, ix_nI (show C 2 i < 30 by omega) (by decide), gd_t, cl (show C 2 i < 2147483648 by omega), pd, d1, d2, gd_t, d3, d4]
  unfold co_h prH
  by_cases e : P 1 (C 2 i) ≤ y + (sumM (C 3) s n + C 3 i) - 1
  · rw [if_pos (c_le (by omega) (by omega)), if_pos e, Nat.sub_self]; rfl
  · rw [if_neg (c_nle (by omega) (by omega)), if_neg e]; rfl
/-- weights of what isn't yet in s -/
def Wm (A n : Nat) (C : Nat → Nat → Nat) (s : Nat) : Nat := sumM (C 1) (mis A s) n
theorem sumM_cg {w : Nat → Nat} {s s' n : Nat} (h : ∀ j, j < n → s.testBit j = s'.testBit j) : sumM w s n = sumM w s' n := by
  induction n with
  | zero => rfl
  | succ n ih => rw [sumM_s, sumM_s, ih (fun j hj => h j (by omega)), h n (by omega)]
theorem sumM_add {w : Nat → Nat} {s s' i : Nat} : ∀ n, i < n → s.testBit i = true → s'.testBit i = false → (∀ j, j < n → j ≠ i → s.testBit j = s'.testBit j) → sumM w s n = w i + sumM w s' n := by
  intro n
  induction n with
  | zero => intro h; omega
  | succ n ih =>
    intro hi h1 h2 h3
    rw [sumM_s, sumM_s]
    by_cases e : i = n
    · subst e
      rw [h1, h2, sumM_cg (s := s) (s' := s') (fun j hj => h3 j (by omega) (by omega))]
      simp; omega
    · rw [ih (by omega) h1 h2 (fun j hj => h3 j (by omega)), h3 n (by omega) (fun z => e z.symm)]
      omega
theorem Wm_s {A n s i : Nat} {C : Nat → Nat → Nat} (hn : n ≤ 9) (hi : i < n) (hf : fre A s i = true) : Wm A n C s = C 1 i + Wm A n C (s ||| 2 ^ i) := by
  obtain ⟨p1, p2⟩ := fre_t.mp hf
  refine sumM_add n hi ?_ ?_ (fun j hj hji => ?_)
  · rw [mis_t _ _ (by omega), p1, p2]; rfl
  · rw [mis_t _ _ (by omega), or_bit]; simp
  · rw [mis_t _ _ (by omega), mis_t _ _ (by omega), or_bit, decide_eq_false (show ¬ i = j from fun z => hji z.symm), Bool.or_false]
theorem rs_W {A n K : Nat} {C : Nat → Nat → Nat} {c : Nat → Nat → Nat} (hA : A < 2 ^ n) (hn : n ≤ 9) (hA5 : A < 512) (hK : K ≤ 900000) (hc : ∀ i s, i < n → sub s A → fre A s i = true → c i s ≤ K) (hw : ∀ i s, i < n → c i s ≤ C 1 i) : ∀ m s, sub s A → A ≤ s + m → rs A n c s ≤ Wm A n C s := by
  intro m
  induction m with
  | zero =>
    intro s h a
    have := sub_le h
    have e : s = A := by omega
    subst e
    rw [rs_A]; exact Nat.zero_le _
  | succ m ih =>
    intro s h a
    by_cases e : s = A
    · subst e; rw [rs_A]; exact Nat.zero_le _
    · obtain ⟨-, i, i1, i2, i3⟩ := rs_at hA hA5 hK hc h e
      obtain ⟨p1, p2⟩ := fre_t.mp i2
      have g := or_gt p2
      have := ih (s ||| 2 ^ i) (or_sub h p1) (by omega)
      have := hw i s i1
      rw [i3, Wm_s hn i1 i2]
      omega
/-- the model's cell while it looks for the best -/
def mxv (W v : Nat) : Int32 := if v = 1000000000 then -1 else nI (W - v)
theorem L_mh1 {n np A y s : Nat} {C P : Nat → Nat → Nat} (F : Nat) (hF : 1000 ≤ F) (hA : A = 2 ^ n - 1) (hA5 : A < 512) (hs : s < 512) (hy : y ≤ 200) (p2 : Int32) (k : St → Option (Int32 × St)) {R : Nat → Nat} (hsub : sub s A) (hb : ∀ i, i < n → fre A s i = true → R (s ||| 2 ^ i) ≤ Wm A n C (s ||| 2 ^ i)) : ∀ m i S, i ≤ n → n < i + m → IvC S n np C → IvP S np P → (∀ i, i < n → fre A s i = true → gA S 79 0 (s ||| 2 ^ i) = nI (Wm A n C (s ||| 2 ^ i) - R (s ||| 2 ^ i))) → gA S 79 0 s = mxv (Wm A n C s) (mn 1000000000 (fre A s) (fun i => co_h n C (prH C P y) i s + R (s ||| 2 ^ i)) i) → ∃ S', fX12_hear_L51 F (nI y) p2 (nI s) k m (nI i) S = k S' ∧ OffK 79 S S' ∧ (∀ j, j ≠ s → gA S' 79 0 j = gA S 79 0 j) ∧ gA S' 79 0 s = mxv (Wm A n C s) (mn 1000000000 (fre A s) (fun i => co_h n C (prH C P y) i s + R (s ||| 2 ^ i)) n) := by
  have hne : ¬ (1 : Int32) = 0 := by decide
  intro m
  induction m with
  | zero => intro i S a b; omega
  | succ m ih =>
    intro i S a b h hp hR hcur
    have h9 := h.1
    have hWl : Wm A n C s ≤ 100 * n := sumM_le (fun j hj => by
      obtain ⟨q0, q1, q2, q3, q4, q5, q6, q7, q8, q9, q10, q11, x0, x1, x2⟩ := h.2.2.2 j hj
      exact x1.2)
    simp only [fX12_hear_L51, fX12_hear_b51, h.2.2.1]
    by_cases e : i = n
    · subst e; rw [if_pos (c_le (Nat.le_refl _) (by omega))]
      exact ⟨S, rfl, OffK.rf _ _, fun _ _ => rfl, hcur⟩
    · have hAi : A.testBit i = true := by rw [hA, Nat.testBit_two_pow_sub_one]; simp; omega
      rw [if_neg (c_nle (by omega) (by omega)), hb_m, hb_nI (by omega) (by omega), cal_s]
      by_cases c : s.testBit i = true
      · have c' : ¬ fre A s i = true := fun z => by rw [(fre_t.mp z).2] at c; exact absurd c (by decide)
        rw [if_pos c, if_neg hne, nI_a1]
        exact ih (i + 1) S (by omega) (by omega) h hp hR (by rw [mn_s, if_neg (fun z => c' z.1)]; exact hcur)
      · have c' : fre A s i = true := fre_t.mpr ⟨hAi, by simpa using c⟩
        obtain ⟨p1, p2'⟩ := fre_t.mp c'
        have g1 := hR i (by omega) c'
        have g2 := hb i (by omega) c'
        have ws := Wm_s (C := C) h9 (show i < n by omega) c'
        have cw : co_h n C (prH C P y) i s ≤ C 1 i := prH_le
        have ho : s ||| 2 ^ i < 512 := or_lt (i := 9) hs (Nat.pow_lt_pow_right (by decide) (by omega))
        have ev : C 1 i - co_h n C (prH C P y) i s + (Wm A n C (s ||| 2 ^ i) - R (s ||| 2 ^ i)) = Wm A n C s - (co_h n C (prH C P y) i s + R (s ||| 2 ^ i)) := by omega
        have hmn : mn 1000000000 (fre A s) (fun i => co_h n C (prH C P y) i s + R (s ||| 2 ^ i)) i = 1000000000 ∨ mn 1000000000 (fre A s) (fun i => co_h n C (prH C P y) i s + R (s ||| 2 ^ i)) i ≤ Wm A n C s := by
          rcases mn_at (x := 1000000000) (p := fre A s) (f := fun i => co_h n C (prH C P y) i s + R (s ||| 2 ^ i)) (n := i) with q | ⟨j, j1, j2, j3⟩
          · exact Or.inl q
          · right
            rw [j3]
            have := hb j (by omega) j2
            have := Wm_s (C := C) h9 (show j < n by omega) j2
            have : co_h n C (prH C P y) j s ≤ C 1 j := prH_le
            omega
        have go : ∀ v : Int32, v = mxv (Wm A n C s) (mn 1000000000 (fre A s) (fun i => co_h n C (prH C P y) i s + R (s ||| 2 ^ i)) (i + 1)) → ∃ S', fX12_hear_L51 F (nI y) p2 (nI s) k m (nI (i + 1)) (pA S 79 0 s v) = k S' ∧ OffK 79 S S' ∧ (∀ j, j ≠ s → gA S' 79 0 j = gA S 79 0 j) ∧ gA S' 79 0 s = mxv (Wm A n C s) (mn 1000000000 (fre A s) (fun i => co_h n C (prH C P y) i s + R (s ||| 2 ^ i)) n) := fun v hv => by
          have o1 : OffK 79 S (pA S 79 0 s v) := (OffK.rf 79 S).pA 0 s _
          obtain ⟨S', r1, r2, r3, r4⟩ := ih (i + 1) (pA S 79 0 s v) (by omega) (by omega) (h.off o1 own79) (hp.off o1 own79) (fun i' hi' hf' => by
            obtain ⟨-, z2⟩ := fre_t.mp hf'
            rw [gA_pi _ _ _ _ _ _ (fun z => by have := or_gt z2; omega)]; exact hR i' hi' hf') (by rw [gA_ps]; exact hv)
          exact ⟨S', r1, o1.tr r2, fun j hj => by rw [r3 j hj, gA_pi _ _ _ _ _ _ hj], r4⟩
        rw [if_neg c, if_pos rfl, heard_s h hp hy F hF hs (by omega), cal_s, shl1 (by omega), fa_or, ix_nI ho (by decide), gd_t, cl (show s ||| 2 ^ i < 2147483648 by omega), g1, nI_add, ev, bnd_e, ix_nI hs (by decide), gd_t, cl (show s < 2147483648 by omega), hcur]
        unfold fX12_hear_j124
        rw [ix_nI hs (by decide), gd_t, gd_t, cl (show s < 2147483648 by omega), bnd_e, gd_t, bnd_e, nI_a1]
        by_cases d : co_h n C (prH C P y) i s + R (s ||| 2 ^ i) < mn 1000000000 (fre A s) (fun i => co_h n C (prH C P y) i s + R (s ||| 2 ^ i)) i
        · have nle : ¬ nI (Wm A n C s - (co_h n C (prH C P y) i s + R (s ||| 2 ^ i))) ≤ mxv (Wm A n C s) (mn 1000000000 (fre A s) (fun i => co_h n C (prH C P y) i s + R (s ||| 2 ^ i)) i) := by
            unfold mxv
            by_cases q : mn 1000000000 (fre A s) (fun i => co_h n C (prH C P y) i s + R (s ||| 2 ^ i)) i = 1000000000
            · rw [if_pos q]
              intro z
              have := (t_le _ _).mp z
              rw [t_nI (by omega), show (-1 : Int32).toInt = -1 by decide] at this
              omega
            · rw [if_neg q]
              exact c_nle (by omega) (by omega)
          rw [if_neg nle]
          exact go _ (by rw [mn_s, if_pos ⟨c', d⟩, mxv, if_neg (by omega)])
        · have le : nI (Wm A n C s - (co_h n C (prH C P y) i s + R (s ||| 2 ^ i))) ≤ mxv (Wm A n C s) (mn 1000000000 (fre A s) (fun i => co_h n C (prH C P y) i s + R (s ||| 2 ^ i)) i) := by
            unfold mxv
            rw [if_neg (by omega)]
            exact c_le (by omega) (by omega)
          rw [if_pos le]
          exact go _ (by rw [mn_s, if_neg (fun z => d z.2)])
