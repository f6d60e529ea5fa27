/-! THE MODEL'S PLAN -/
theorem nI_div {a b : Nat} (ha : a < 2147483648) (hb : b < 2147483648) : nI a / nI b = nI (a / b) := by
  have hq : a / b < 2147483648 := Nat.lt_of_le_of_lt (Nat.div_le_self a b) ha
  apply (t_eq _ _).mpr
  rw [Int32.toInt_div, t_nI ha, t_nI hb, t_nI hq, ← Int.ofNat_tdiv]
  generalize a / b = q at *
  apply Int.bmod_eq_of_le <;> omega
theorem own79 (n j : Nat) : ownA 79 n j = 99 := rfl
theorem IvC.off {k : Nat} {S S' : St} {n np : Nat} {C : Nat → Nat → Nat} (h : IvC S n np C) (g : OffK k S S') (hk : ∀ n j, ownA k n j = 99) : IvC S' n np C := h.ch (g.ch hk) (by decide)
theorem IvP.off {k : Nat} {S S' : St} {n : Nat} {P : Nat → Nat → Nat} (h : IvP S n P) (g : OffK k S S') (hk : ∀ n j, ownA k n j = 99) : IvP S' n P := h.ch (g.ch hk) (by decide)
theorem c6 {S : St} {n np : Nat} {C : Nat → Nat → Nat} (h : IvC S n np C) {i : Nat} (hi : i < n) : ∀ f, f < 6 → (6 : Int32) * nI i + nI f = nI (6 * i + f) ∧ ix (nI (6 * i + f)) 54 = true ∧ (nI (6 * i + f)).toNatClampNeg = 6 * i + f ∧ gA S 70 0 (6 * i + f) = nI (C f i) := by
  have h9 := h.1
  intro f hf
  obtain ⟨q0, q1, q2, q3, q4, q5, q6, q7, q8, q9, q10, q11, x⟩ := h.2.2.2 i hi
  refine ⟨by rw [show (6 : Int32) * nI i = nI (6 * i) from pk_mul 6 i, nI_add], ix_nI (by omega) (by decide), cl (by omega), ?_⟩
  rcases (show f = 0 ∨ f = 1 ∨ f = 2 ∨ f = 3 ∨ f = 4 ∨ f = 5 by omega) with rfl | rfl | rfl | rfl | rfl | rfl
  · exact q6
  · exact q7
  · exact q8
  · exact q9
  · exact q10
  · exact q11
theorem L_sumOf {S : St} {n np : Nat} {C : Nat → Nat → Nat} (h : IvC S n np C) (F : Nat) {s f : Nat} (hs : s < 512) (hf : f < 6) : ∀ m i, i ≤ n → n < i + m → fX12_sumOf_L5 F S (nI s) (nI f) m (nI (sumM (C f) s i)) (nI i) = some (nI (sumM (C f) s n)) := by
  have h9 := h.1
  have hne : ¬ (1 : Int32) = 0 := by decide
  intro m
  induction m with
  | zero => intro i a b; omega
  | succ m ih =>
    intro i a b
    simp only [fX12_sumOf_L5, fX12_sumOf_b5, h.2.2.1]
    by_cases e : i = n
    · subst e; rw [if_pos (c_le (Nat.le_refl _) (by omega))]
    · have ihh := ih (i + 1) (by omega) (by omega)
      obtain ⟨e1, e2, e3, e4⟩ := c6 h (show i < n by omega) f hf
      rw [if_neg (c_nle (by omega) (by omega)), hb_m, hb_nI (by omega) (by omega), cal_s]
      rw [sumM_s] at ihh
      by_cases c : s.testBit i = true
      · rw [if_pos c] at ihh ⊢
        rw [if_neg hne, e1, e2, gd_t, e3, e4, bnd_e, nI_add, nI_a1]
        exact ihh
      · rw [if_neg c] at ihh ⊢
        rw [if_pos rfl, bnd_e, nI_a1, Int32.add_zero]
        exact ihh
theorem sumOf_s {S : St} {n np : Nat} {C : Nat → Nat → Nat} (h : IvC S n np C) (F : Nat) (hF : 1000 ≤ F) {s f : Nat} (hs : s < 512) (hf : f < 6) : fX12_sumOf F S (nI s) (nI f) = some (nI (sumM (C f) s n)) := L_sumOf h F hs hf F 0 (by omega) (by have := h.1; omega)
def prP (C : Nat → Nat → Nat) (coin i x : Nat) : Nat := C 1 i * ((x - 1) / coin)
theorem prP_le {C : Nat → Nat → Nat} {coin i x : Nat} (hx : x ≤ 9000) (hw : C 1 i ≤ 100) : prP C coin i x ≤ 900000 := by
  unfold prP
  have h1 : (x - 1) / coin ≤ 9000 := Nat.le_trans (Nat.div_le_self _ _) (by omega)
  calc C 1 i * ((x - 1) / coin) ≤ 100 * 9000 := Nat.mul_le_mul hw h1
    _ = 900000 := by decide
theorem nI_mulN (a b : Nat) : nI a * nI b = nI (a * b) := pk_mul a b
theorem waits_s {S : St} {n np : Nat} {C : Nat → Nat → Nat} (h : IvC S n np C) (F : Nat) (hF : 1000 ≤ F) {s i coin : Nat} (hs : s < 512) (hi : i < n) (hc : 1 ≤ coin) (hc2 : coin ≤ 1000) : fX12_waits F S (nI s) (nI i) (nI coin) = some (nI (co_p n C (prP C coin) i s)) := by
  have h9 := h.1
  obtain ⟨a1, a2, a3, a4⟩ := c6 h hi 5 (by decide)
  obtain ⟨b1, b2, b3, b4⟩ := c6 h hi 1 (by decide)
  have l := (len_p h hi).2
  have sl : sumM (C 5) s n ≤ 1000 * n := sumM_le (fun j hj => (len_p h hj).2.2)
  have s5 : fX12_sumOf F S (nI s) 5 = some (nI (sumM (C 5) s n)) := sumOf_s h F hF hs (f := 5) (by decide)
  have hne : (!(decide (nI coin = (0 : Int32)))) = true := by
    have : ¬ nI coin = 0 := c_ne (b := 0) (by omega) (by omega) (by decide)
    simp [this]
  have hdv : (sumM (C 5) s n + C 5 i + coin - 1) / coin = (sumM (C 5) s n + C 5 i - 1) / coin + 1 := by
    rw [show sumM (C 5) s n + C 5 i + coin - 1 = (sumM (C 5) s n + C 5 i - 1) + coin by omega]
    exact Nat.add_div_right _ (by omega)
  unfold fX12_waits
  rw [s5, cal_s, show (5 : Int32) = nI 5 from rfl, show (1 : Int32) = nI 1 from rfl, a1, a2, gd_t, a3, a4, bnd_e, b1, b2, gd_t, b3, b4, hne, gd_t, nI_add, nI_add, nI_subn (by omega), nI_div (by omega) (by omega), hdv, nI_subn (Nat.le_add_left 1 _), nI_mulN, Nat.add_sub_cancel]
  rfl
theorem mn_x {x x' : Nat} {p : Nat → Bool} {f : Nat → Nat} {n i : Nat} (hi : i < n) (hp : p i = true) (h1 : f i < x) (h2 : f i < x') : mn x p f n = mn x' p f n := by
  have a := mn_le (x := x) (p := p) (f := f) (n := n)
  have b := mn_le (x := x') (p := p) (f := f) (n := n)
  have a2 := a.2 i hi hp
  have b2 := b.2 i hi hp
  rcases mn_at (x := x) (p := p) (f := f) (n := n) with q | ⟨j, j1, j2, j3⟩
  · omega
  · rcases mn_at (x := x') (p := p) (f := f) (n := n) with r | ⟨l, l1, l2, l3⟩
    · omega
    · have := a.2 l l1 l2
      have := b.2 j j1 j2
      omega
theorem L_mp1 {n np A coin s : Nat} {C : Nat → Nat → Nat} (F : Nat) (hF : 1000 ≤ F) (hA5 : A < 512) (hs : s < 512) (hc : 1 ≤ coin) (hc2 : coin ≤ 1000) (p3 : Int32) (k : St → Option (Int32 × St)) {R : Nat → Nat} (hb : ∀ i, i < n → fre A s i = true → R (s ||| 2 ^ i) < 1000000000) : ∀ m i S, i ≤ n → n < i + m → IvC S n np C → (∀ i, i < n → fre A s i = true → gA S 79 0 (s ||| 2 ^ i) = nI (R (s ||| 2 ^ i))) → gA S 79 0 s = nI (mn 2000000000 (fre A s) (fun i => co_p n C (prP C coin) i s + R (s ||| 2 ^ i)) i) → ∃ S', fX12_plan_L80 F (nI coin) p3 (nI A) (nI s) k m (nI i) S = k S' ∧ OffK 79 S S' ∧ (∀ j, j ≠ s → gA S' 79 0 j = gA S 79 0 j) ∧ gA S' 79 0 s = nI (mn 2000000000 (fre A s) (fun i => co_p n C (prP C coin) i s + R (s ||| 2 ^ i)) n) := by
  have hne : ¬ (1 : Int32) = 0 := by decide
  intro m
  induction m with
  | zero => intro i S a b; omega
  | succ m ih =>
    intro i S a b h hR hcur
    have h9 := h.1
    simp only [fX12_plan_L80, fX12_plan_b80, h.2.2.1]
    by_cases e : i = n
    · subst e; rw [if_pos (c_le (Nat.le_refl _) (by omega))]
      exact ⟨S, rfl, OffK.rf _ _, fun _ _ => rfl, hcur⟩
    · have ml := mis_le A s
      have hm := (mn_le (x := 2000000000) (p := fre A s) (f := fun i => co_p n C (prP C coin) i s + R (s ||| 2 ^ i)) (n := i)).1
      rw [if_neg (c_nle (by omega) (by omega)), mis_I, hb_m, hb_nI (by omega) (by omega), mis_t A s (by omega), cal_s]
      by_cases c : fre A s i = true
      · have c' : (A.testBit i && !s.testBit i) = true := c
        obtain ⟨p1, p2⟩ := fre_t.mp c
        have g1 := hR i (by omega) c
        have g2 := hb i (by omega) c
        have w1 := waits_s h F hF hs (show i < n by omega) hc hc2
        have w2 : co_p n C (prP C coin) i s ≤ 900000 := by
          have l := (len_p h (show i < n by omega)).2
          have sl : sumM (C 5) s n ≤ 1000 * n := sumM_le (fun j hj => (len_p h hj).2.2)
          obtain ⟨q0, q1, q2, q3, q4, q5, q6, q7, q8, q9, q10, q11, x0, x1, x2, x3, x4, x5, x6⟩ := h.2.2.2 i (by omega)
          have : sumM (C 5) s n + C 5 i ≤ 9000 := by
            have := sumM_room (w := C 5) (s := s) (n := n) (K := 1000) p2 (show i < n by omega) (fun j hj => (len_p h hj).2.2)
            have : 1000 * n ≤ 9000 := by omega
            omega
          exact prP_le this x1.2
        have ho : s ||| 2 ^ i < 512 := or_lt (i := 9) hs (Nat.pow_lt_pow_right (by decide) (by omega))
        have hos : s ||| 2 ^ i ≠ s := fun z => by have := or_gt p2; omega
        have hnext : ∀ v, gA (pA S 79 0 s v) 79 0 s = v := fun v => gA_ps _ _ _ _ _
        have go : ∀ v, nI v = nI (mn 2000000000 (fre A s) (fun i => co_p n C (prP C coin) i s + R (s ||| 2 ^ i)) (i + 1)) → ∃ S', fX12_plan_L80 F (nI coin) p3 (nI A) (nI s) k m (nI (i + 1)) (pA S 79 0 s (nI v)) = k S' ∧ OffK 79 S S' ∧ (∀ j, j ≠ s → gA S' 79 0 j = gA S 79 0 j) ∧ gA S' 79 0 s = nI (mn 2000000000 (fre A s) (fun i => co_p n C (prP C coin) i s + R (s ||| 2 ^ i)) n) := fun v hv => by
          have o1 : OffK 79 S (pA S 79 0 s (nI v)) := (OffK.rf 79 S).pA 0 s _
          obtain ⟨S', r1, r2, r3, r4⟩ := ih (i + 1) (pA S 79 0 s (nI v)) (by omega) (by omega) (h.off o1 own79) (fun i' hi' hf' => by
            obtain ⟨-, z2⟩ := fre_t.mp hf'
            rw [gA_pi _ _ _ _ _ _ (fun z => by have := or_gt z2; omega)]; exact hR i' hi' hf') (by rw [gA_ps]; exact hv)
          exact ⟨S', r1, o1.tr r2, fun j hj => by rw [r3 j hj, gA_pi _ _ _ _ _ _ hj], r4⟩
        rw [if_pos c', if_neg hne, w1, cal_s, shl1 (by omega), fa_or, ix_nI ho (by decide), gd_t, cl (show s ||| 2 ^ i < 2147483648 by omega), g1, nI_add, bnd_e, ix_nI hs (by decide), gd_t, cl (show s < 2147483648 by omega), hcur]
        unfold fX12_plan_j158
        rw [ix_nI hs (by decide), gd_t, gd_t, cl (show s < 2147483648 by omega), bnd_e, gd_t, bnd_e, nI_a1]
        by_cases d : co_p n C (prP C coin) i s + R (s ||| 2 ^ i) < mn 2000000000 (fre A s) (fun i => co_p n C (prP C coin) i s + R (s ||| 2 ^ i)) i
        · rw [if_neg (c_nle d (by omega))]
          exact go _ (by rw [mn_s, if_pos ⟨c, d⟩])
        · rw [if_pos (c_le (by omega) (by omega))]
          exact go _ (by rw [mn_s, if_neg (fun z => d z.2)])
      · have c' : ¬ (A.testBit i && !s.testBit i) = true := c
        rw [if_neg c', if_pos rfl, nI_a1]
        exact ih (i + 1) S (by omega) (by omega) h hR (by rw [mn_s, if_neg (fun z => c z.1)]; exact hcur)
