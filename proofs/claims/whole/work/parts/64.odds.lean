/-! COUSINS -/
def bothK (K : Nat → Nat) (a b : Nat) : Nat → Bool := fun p => (K p).testBit a && (K p).testBit b
theorem C_both {S : St} {n a b : Nat} {K : Nat → Nat} (F : Nat) (hn : n ≤ 30) (h1 : gI S 6 0 6 = nI n) (hk : ∀ j, j < n → gA S 39 0 j = nI (K j) ∧ K j < 1024) (ha : a < 10) (hb : b < 10) : ∀ m i, i ≤ n → n < i + m → fX7_ofBoth_L5 F S (nI a) (nI b) m (nI (fb_ct (bothK K a b) i)) (nI i) = some (nI (fb_ct (bothK K a b) n)) := by
  intro m
  induction m with
  | zero => intro i q1 q2; omega
  | succ m ih =>
    intro i q1 q2
    simp only [fX7_ofBoth_L5, fX7_ofBoth_b5, h1]
    by_cases e : i = n
    · subst e; rw [if_pos (c_le (Nat.le_refl _) (by omega))]
    · rw [if_neg (c_nle (show i < n by omega) (by omega))]
      obtain ⟨k1, k2⟩ := hk i (by omega)
      have ihh := ih (i + 1) (by omega) (by omega)
      rw [← ihh, fb_ct_succ]
      simp only [ix_nI (show i < 30 by omega) (by decide), gd_t, cl (show i < 2147483648 by omega), k1, hb_c, hb_nI (show K i < 2147483648 by omega) (show a < 31 by omega), hb_nI (show K i < 2147483648 by omega) (show b < 31 by omega), cal_s, nI_a1, bothK]
      have hz10 : ¬ (1 : Int32) = 0 := by decide
      by_cases ea : (K i).testBit a = true <;> by_cases eb : (K i).testBit b = true <;> simp [ea, eb, hz10]
theorem M_both {S : St} {n a b : Nat} {K : Nat → Nat} (F : Nat) (hn : n ≤ 30) (h1 : gI S 11 0 6 = nI n) (hk : ∀ j, j < n → gA S 75 0 j = nI (K j) ∧ K j < 1024) (ha : a < 10) (hb : b < 10) : ∀ m i, i ≤ n → n < i + m → fX12_cousinsOf_L5 F S (nI a) (nI b) m (nI (fb_ct (bothK K a b) i)) (nI i) = some (nI (fb_ct (bothK K a b) n)) := by
  intro m
  induction m with
  | zero => intro i q1 q2; omega
  | succ m ih =>
    intro i q1 q2
    simp only [fX12_cousinsOf_L5, fX12_cousinsOf_b5, h1]
    by_cases e : i = n
    · subst e; rw [if_pos (c_le (Nat.le_refl _) (by omega))]
    · rw [if_neg (c_nle (show i < n by omega) (by omega))]
      obtain ⟨k1, k2⟩ := hk i (by omega)
      have ihh := ih (i + 1) (by omega) (by omega)
      rw [← ihh, fb_ct_succ]
      simp only [ix_nI (show i < 30 by omega) (by decide), gd_t, cl (show i < 2147483648 by omega), k1, hb_m, hb_nI (show K i < 2147483648 by omega) (show a < 31 by omega), hb_nI (show K i < 2147483648 by omega) (show b < 31 by omega), cal_s, nI_a1, bothK, fX12_cousinsOf_j47, bnd_e, Int32.add_zero]
      have hz10 : ¬ (1 : Int32) = 0 := by decide
      by_cases ea : (K i).testBit a = true <;> by_cases eb : (K i).testBit b = true <;> simp [ea, eb, hz10]
theorem Q_cousinsOf {S : St} {n a b : Nat} {K : Nat → Nat} (F : Nat) (hF : 1000 ≤ F) (hn : n ≤ 30) (h1 : gI S 11 0 6 = nI n) (hk : ∀ j, j < n → gA S 75 0 j = nI (K j) ∧ K j < 1024) (ha : a < 10) (hb : b < 10) : fX12_cousinsOf F S (nI a) (nI b) = some (nI (fb_ct (bothK K a b) n)) := M_both F hn h1 hk ha hb F 0 (by omega) (by omega)
theorem Q_cousins {S : St} {n : Nat} {P : Nat → Nat → Nat} (h : IvP S n P) (F : Nat) (hF : 1000 ≤ F) (p1 p2 : Int32) : ∃ (r : Int32) (S2 : St), fX11_cousins F S p1 p2 = some r ∧ fX12_cousins F S p1 p2 = some (r, S2) ∧ Ch 99 S S2 ∧ gC S2 = gC S := by
  have hne : ¬ (1 : Int32) = 0 := by decide
  obtain ⟨h0, h1, h2, h3⟩ := id h
  rcases a_kin p1 with ⟨c1, m1⟩ | ⟨a1, rfl, u1, c1, m1⟩
  · exact ⟨-1, S, by simp only [fX11_cousins, c1, cal_s]; rfl, by simp only [fX12_cousins, m1, cal_s]; rfl, Ch.rf _ _, rfl⟩
  rcases a_kin p2 with ⟨c2, m2⟩ | ⟨a2, rfl, u2, c2, m2⟩
  · exact ⟨-1, S, by simp only [fX11_cousins, c1, c2, cal_s, if_neg hne]; rfl, by simp only [fX12_cousins, m1, m2, cal_s, if_neg hne]; rfl, Ch.rf _ _, rfl⟩
  by_cases e : nI a1 = nI a2
  · exact ⟨-1, S, by simp only [fX11_cousins, c1, c2, cal_s, if_neg hne, if_pos e], by simp only [fX12_cousins, m1, m2, cal_s, if_neg hne, if_pos e], Ch.rf _ _, rfl⟩
  obtain ⟨S', l1, l2, l3⟩ := Q_lay h F hF
  have hk5 : ∀ j, j < n → P 5 j < 1024 := fun j hj => (h3 j hj).2.2.2.2.2.2.2.2.2.2.2.2.2.2.2.2.1
  have r1 : fX7_ofBoth F S (nI a1) (nI a2) = some (nI (fb_ct (bothK (P 5) a1 a2) n)) := C_both F h0 h1 (fun j hj => ⟨(h3 j hj).2.2.2.2.2.1, hk5 j hj⟩) u1 u2 F 0 (by omega) (by omega)
  have r2 := Q_cousinsOf (S := S') (K := P 5) F hF h0 (by rw [l2.2.1]; exact h2) (fun j hj => ⟨l3 j hj, hk5 j hj⟩) u1 u2
  exact ⟨nI (fb_ct (bothK (P 5) a1 a2) n), S', by simp only [fX11_cousins, c1, c2, cal_s, if_neg hne, if_neg e, r1], by simp only [fX12_cousins, m1, m2, cal_s, if_neg hne, if_neg e, l1, r2], l2.ch, l2.2.2⟩
/-! ODDS -/
def dnO (M : Nat → Bool) (by_ v : Nat → Nat) (n : Nat) : Nat → Nat → Nat
  | 0, _ => 0
  | k + 1, p => if dnO M by_ v n k p ≠ 0 then dnO M by_ v n k p else if M (n - 1 - k) = true ∧ by_ (n - 1 - k) = p then v (n - 1 - k) + 1 else 0
def upO (M : Nat → Bool) (by_ v : Nat → Nat) : Nat → Nat → Nat
  | 0, _ => 0
  | k + 1, p => if M k = true ∧ by_ k = p then v k + 1 else upO M by_ v k p
theorem up_dn (M : Nat → Bool) (by_ v : Nat → Nat) (n p : Nat) : ∀ k, k ≤ n → upO M by_ v n p = if dnO M by_ v n k p ≠ 0 then dnO M by_ v n k p else upO M by_ v (n - k) p := by
  intro k
  induction k with
  | zero => intro _; simp [dnO]
  | succ k ih =>
    intro hk
    rw [ih (by omega)]
    by_cases e : dnO M by_ v n k p ≠ 0
    · rw [if_pos e]; simp only [dnO, if_pos e]
    · rw [if_neg e]
      have e1 : n - k = (n - 1 - k) + 1 := by omega
      have e2 : n - (k + 1) = n - 1 - k := by omega
      rw [e1, e2]
      simp only [dnO, if_neg e, upO]
      by_cases em : M (n - 1 - k) = true ∧ by_ (n - 1 - k) = p
      · rw [if_pos em, if_pos em]; simp
      · rw [if_neg em, if_neg em]; simp
theorem up_is_dn (M : Nat → Bool) (by_ v : Nat → Nat) (n p : Nat) : upO M by_ v n p = dnO M by_ v n n p := by
  rw [up_dn M by_ v n p n (Nat.le_refl n)]
  by_cases e : dnO M by_ v n n p ≠ 0
  · rw [if_pos e]
  · rw [if_neg e, Nat.sub_self]
    simp only [ne_eq, Decidable.not_not] at e
    rw [e]; rfl
def cy (d : Nat → Nat) (np : Nat) : Nat := fb_ct (fun p => decide (d p = 2)) np
def cn (d : Nat → Nat) (np : Nat) : Nat := fb_ct (fun p => decide (d p = 1)) np
theorem C_odds {S : St} {n np : Nat} {Y : Nat → Nat → Nat} (h : IvY S n np Y) (hnp : np ≤ 30) (F p0 k0 : Nat) (hp : p0 < 30) (hk0 : k0 < 10) (kk : Int32 → Int32 → Option Int32) : ∀ m k hh, k ≤ n → n < k + m → hh < 2 ^ 30 → (∀ p, p < np → hh.testBit p = decide (dnO (fun j => decide (Y 1 j = p0 ∧ Y 2 j = k0)) (Y 0) (Y 3) n k p ≠ 0)) → fX7_pairsAtOdds_L16 F S (nI p0) (nI k0) kk m (nI hh) (nI (cy (dnO (fun j => decide (Y 1 j = p0 ∧ Y 2 j = k0)) (Y 0) (Y 3) n k) np)) (nI (cn (dnO (fun j => decide (Y 1 j = p0 ∧ Y 2 j = k0)) (Y 0) (Y 3) n k) np)) (nI (n - k) - 1) = kk (nI (cy (dnO (fun j => decide (Y 1 j = p0 ∧ Y 2 j = k0)) (Y 0) (Y 3) n n) np)) (nI (cn (dnO (fun j => decide (Y 1 j = p0 ∧ Y 2 j = k0)) (Y 0) (Y 3) n n) np)) := by
  obtain ⟨h0, h1, h2, h3⟩ := h
  intro m
  induction m with
  | zero => intro k hh q1 q2; omega
  | succ m ih =>
    intro k hh q1 q2 hlt hbit
    simp only [fX7_pairsAtOdds_L16, fX7_pairsAtOdds_b16]
    by_cases e : k = n
    · subst e
      rw [Nat.sub_self, if_pos (show nI 0 - 1 < 0 by decide)]
    · obtain ⟨i, ei⟩ : ∃ i, i = n - 1 - k := ⟨_, rfl⟩
      have hi : i < n := by omega
      have e1 : n - k = i + 1 := by omega
      have e2 : n - (k + 1) = i := by omega
      obtain ⟨a0, a1, a2, a3, -, -, -, -, x0, x1, x2, x3⟩ := h3 i hi
      rw [e1, nI_pred, if_neg (nI_pos (by omega))]
      have i1 := ix_nI (show i < 20 by omega) (by decide)
      have hm1 : nI i + -1 = nI i - 1 := (Int32.sub_eq_add_neg _ _).symm
      have dsame : (∀ p, dnO (fun j => decide (Y 1 j = p0 ∧ Y 2 j = k0)) (Y 0) (Y 3) n (k + 1) p = dnO (fun j => decide (Y 1 j = p0 ∧ Y 2 j = k0)) (Y 0) (Y 3) n k p) → fX7_pairsAtOdds_L16 F S (nI p0) (nI k0) kk m (nI hh) (nI (cy (dnO (fun j => decide (Y 1 j = p0 ∧ Y 2 j = k0)) (Y 0) (Y 3) n k) np)) (nI (cn (dnO (fun j => decide (Y 1 j = p0 ∧ Y 2 j = k0)) (Y 0) (Y 3) n k) np)) (nI i - 1) = kk (nI (cy (dnO (fun j => decide (Y 1 j = p0 ∧ Y 2 j = k0)) (Y 0) (Y 3) n n) np)) (nI (cn (dnO (fun j => decide (Y 1 j = p0 ∧ Y 2 j = k0)) (Y 0) (Y 3) n n) np)) := by
        intro hd
        have hd2 : dnO (fun j => decide (Y 1 j = p0 ∧ Y 2 j = k0)) (Y 0) (Y 3) n (k + 1) = dnO (fun j => decide (Y 1 j = p0 ∧ Y 2 j = k0)) (Y 0) (Y 3) n k := funext hd
        have := ih (k + 1) hh (by omega) (by omega) hlt (fun p hp => by rw [hd2]; exact hbit p hp)
        rw [hd2, e2] at this
        exact this
      simp only [fX7_isSaying, i1, gd_t, cl (show i < 2147483648 by omega), a0, a1, a2, a3, hm1, hb_c, hb_nI (show hh < 2147483648 by omega) (show Y 0 i < 31 by omega), shl1 (show Y 0 i < 31 by omega), fa_or, cal_s, bnd_e, fX7_pairsAtOdds_j75, Int32.add_zero]
      by_cases em : Y 1 i = p0 ∧ Y 2 i = k0
      · rw [if_pos (show nI (Y 1 i) = nI p0 by rw [em.1]), if_pos (show nI (Y 2 i) = nI k0 by rw [em.2]), cal_s, if_neg (show ¬ ((1 : Int32) = 0) by decide), hbit (Y 0 i) x0]
        by_cases ed : dnO (fun j => decide (Y 1 j = p0 ∧ Y 2 j = k0)) (Y 0) (Y 3) n k (Y 0 i) ≠ 0
        · simp only [decide_eq_true ed, if_true, if_neg (show ¬ ((1 : Int32) = 0) by decide)]
          refine dsame (fun p => ?_)
          simp only [dnO, ← ei]
          by_cases ep : dnO (fun j => decide (Y 1 j = p0 ∧ Y 2 j = k0)) (Y 0) (Y 3) n k p ≠ 0
          · rw [if_pos ep]
          · rw [if_neg ep]
            have : Y 0 i ≠ p := fun q => ep (by rw [← q]; exact ed)
            rw [if_neg (fun q => this q.2)]
            simp only [ne_eq, Decidable.not_not] at ep
            exact ep.symm
        · simp only [decide_eq_false ed, Bool.false_eq_true, if_false, if_true]
          have ed0 : dnO (fun j => decide (Y 1 j = p0 ∧ Y 2 j = k0)) (Y 0) (Y 3) n k (Y 0 i) = 0 := by simpa using ed
          have hd2 : dnO (fun j => decide (Y 1 j = p0 ∧ Y 2 j = k0)) (Y 0) (Y 3) n (k + 1) = fun p => if p = Y 0 i then Y 3 i + 1 else dnO (fun j => decide (Y 1 j = p0 ∧ Y 2 j = k0)) (Y 0) (Y 3) n k p := by
            funext p
            simp only [dnO, ← ei]
            by_cases ep : p = Y 0 i
            · subst ep
              rw [if_neg ed, if_pos ⟨by simp [em.1, em.2], rfl⟩, if_pos rfl]
            · rw [if_neg ep]
              by_cases ez : dnO (fun j => decide (Y 1 j = p0 ∧ Y 2 j = k0)) (Y 0) (Y 3) n k p ≠ 0
              · rw [if_pos ez]
              · rw [if_neg ez, if_neg (fun q => ep q.2.symm)]
                simp only [ne_eq, Decidable.not_not] at ez
                exact ez.symm
          have hcy : cy (dnO (fun j => decide (Y 1 j = p0 ∧ Y 2 j = k0)) (Y 0) (Y 3) n (k + 1)) np = cy (dnO (fun j => decide (Y 1 j = p0 ∧ Y 2 j = k0)) (Y 0) (Y 3) n k) np + (if Y 3 i = 1 then 1 else 0) := by
            unfold cy
            have := fb_ct_upd (fun p => decide (dnO (fun j => decide (Y 1 j = p0 ∧ Y 2 j = k0)) (Y 0) (Y 3) n k p = 2)) (decide (Y 3 i + 1 = 2)) (i := Y 0 i) (n := np) x0
            rw [hd2]
            have e3 : (fun p => decide ((if p = Y 0 i then Y 3 i + 1 else dnO (fun j => decide (Y 1 j = p0 ∧ Y 2 j = k0)) (Y 0) (Y 3) n k p) = 2)) = fun q => if q = Y 0 i then decide (Y 3 i + 1 = 2) else decide (dnO (fun j => decide (Y 1 j = p0 ∧ Y 2 j = k0)) (Y 0) (Y 3) n k q = 2) := by
              funext p; by_cases ep : p = Y 0 i <;> simp [ep]
            rw [e3]
            simp only [ed0, show ¬ ((0 : Nat) = 2) by decide, decide_false, Bool.false_eq_true, if_false, Nat.add_zero] at this
            rw [this]
            congr 1
            by_cases e4 : Y 3 i = 1
            · simp [e4]
            · have : ¬ (Y 3 i + 1 = 2) := by omega
              simp [e4]
          have hcn : cn (dnO (fun j => decide (Y 1 j = p0 ∧ Y 2 j = k0)) (Y 0) (Y 3) n (k + 1)) np = cn (dnO (fun j => decide (Y 1 j = p0 ∧ Y 2 j = k0)) (Y 0) (Y 3) n k) np + (if Y 3 i = 1 then 0 else 1) := by
            unfold cn
            have := fb_ct_upd (fun p => decide (dnO (fun j => decide (Y 1 j = p0 ∧ Y 2 j = k0)) (Y 0) (Y 3) n k p = 1)) (decide (Y 3 i + 1 = 1)) (i := Y 0 i) (n := np) x0
            rw [hd2]
            have e3 : (fun p => decide ((if p = Y 0 i then Y 3 i + 1 else dnO (fun j => decide (Y 1 j = p0 ∧ Y 2 j = k0)) (Y 0) (Y 3) n k p) = 1)) = fun q => if q = Y 0 i then decide (Y 3 i + 1 = 1) else decide (dnO (fun j => decide (Y 1 j = p0 ∧ Y 2 j = k0)) (Y 0) (Y 3) n k q = 1) := by
              funext p; by_cases ep : p = Y 0 i <;> simp [ep]
            rw [e3]
            simp only [ed0, show ¬ ((0 : Nat) = 1) by decide, decide_false, Bool.false_eq_true, if_false, Nat.add_zero] at this
            rw [this]
            congr 1
            by_cases e4 : Y 3 i = 1
            · have : ¬ (Y 3 i + 1 = 1) := by omega
              simp [e4]
            · have : Y 3 i = 0 := by omega
              simp [this]
          have hb2 : hh ||| 2 ^ (Y 0 i) < 2 ^ 30 := Nat.or_lt_two_pow hlt (Nat.pow_lt_pow_right (by decide) (by omega))
          have := ih (k + 1) (hh ||| 2 ^ (Y 0 i)) (by omega) (by omega) hb2 (fun p hp => by
            rw [Nat.testBit_or, Nat.testBit_two_pow, hbit p hp, hd2]
            by_cases ep : p = Y 0 i
            · subst ep; simp
            · have : ¬ Y 0 i = p := fun q => ep q.symm
              simp [ep, this])
          rw [hcy, hcn, e2] at this
          rw [← this]
          rcases (show Y 3 i = 0 ∨ Y 3 i = 1 by omega) with q | q
          · simp only [q, if_pos (show nI 0 = 0 from rfl), if_neg (show ¬ ((0 : Nat) = 1) by decide), Nat.add_zero, nI_a1]
          · simp only [q, if_neg (show ¬ (nI 1 = 0) by decide), if_true, Nat.add_zero, nI_a1]
      · have hz : (if nI (Y 1 i) = nI p0 then if nI (Y 2 i) = nI k0 then (some 1 : Option Int32) else some 0 else some 0) = some 0 := by
          by_cases e5 : Y 1 i = p0
          · rw [if_pos (show nI (Y 1 i) = nI p0 by rw [e5]), if_neg (c_ne (fun q => em ⟨e5, q⟩) (by omega) (by omega))]
          · rw [if_neg (c_ne e5 (by omega) (by omega))]
        rw [hz, cal_s, if_pos rfl]
        refine dsame (fun p => ?_)
        simp only [dnO, ← ei]
        by_cases ep : dnO (fun j => decide (Y 1 j = p0 ∧ Y 2 j = k0)) (Y 0) (Y 3) n k p ≠ 0
        · rw [if_pos ep]
        · rw [if_neg ep, if_neg (fun q => em (by simpa using q.1))]
          simp only [ne_eq, Decidable.not_not] at ep
          exact ep.symm
def vc4 (u : Nat) : Int32 := if u = 0 then -4 else nI (u - 1)
theorem M_odds1 {S : St} {n np : Nat} {Y : Nat → Nat → Nat} (h : IvY S n np Y) (hnp : np ≤ 30) (F p0 k0 p : Nat) (hp : p0 < 30) (hk0 : k0 < 10) (hp2 : p < 30) (x3 x4 : Int32) (kk : Int32 → Option Int32) : ∀ m i, i ≤ n → n < i + m → fX12_odds_L41 F S (nI p0) (nI k0) x3 x4 (nI p) kk m (vc4 (upO (fun j => decide (Y 1 j = p0 ∧ Y 2 j = k0)) (Y 0) (Y 3) i p)) (nI (4 * i)) = kk (vc4 (upO (fun j => decide (Y 1 j = p0 ∧ Y 2 j = k0)) (Y 0) (Y 3) n p)) := by
  obtain ⟨h0, h1, h2, h3⟩ := h
  intro m
  induction m with
  | zero => intro i q1 q2; omega
  | succ m ih =>
    intro i q1 q2
    have e4 : (4 : Int32) * nI n = nI (4 * n) := pk_mul 4 n
    simp only [fX12_odds_L41, fX12_odds_b41, h2, e4]
    by_cases e : i = n
    · subst e; rw [if_pos (c_le (Nat.le_refl _) (by omega))]
    · obtain ⟨-, -, -, -, a0, a1, a2, a3, x0, x1, x2, x3'⟩ := h3 i (by omega)
      rw [Nat.add_zero] at a0
      rw [if_neg (c_nle (show 4 * i < 4 * n by omega) (by omega))]
      have ihh := ih (i + 1) (by omega) (by omega)
      have f1 : nI (4 * i) + 1 = nI (4 * i + 1) := nI_add _ 1
      have f2 : nI (4 * i) + 2 = nI (4 * i + 2) := nI_add _ 2
      have f3 : nI (4 * i) + 3 = nI (4 * i + 3) := nI_add _ 3
      have f4 : nI (4 * i) + 4 = nI (4 * (i + 1)) := nI_add _ 4
      simp only [f1, f2, f3, f4, ix_nI (show 4 * i < 80 by omega) (by decide), ix_nI (show 4 * i + 1 < 80 by omega) (by decide), ix_nI (show 4 * i + 2 < 80 by omega) (by decide), ix_nI (show 4 * i + 3 < 80 by omega) (by decide), gd_t, cl (show 4 * i < 2147483648 by omega), cl (show 4 * i + 1 < 2147483648 by omega), cl (show 4 * i + 2 < 2147483648 by omega), cl (show 4 * i + 3 < 2147483648 by omega), a0, a1, a2, a3, bnd_e]
      rw [← ihh]
      simp only [upO]
      by_cases e0 : Y 0 i = p
      · rw [if_pos (show nI (Y 0 i) = nI p by rw [e0])]
        by_cases e1 : Y 1 i = p0
        · rw [if_pos (show nI (Y 1 i) = nI p0 by rw [e1])]
          by_cases e2 : Y 2 i = k0
          · rw [if_pos (show nI (Y 2 i) = nI k0 by rw [e2]), if_pos ⟨by simp [e1, e2], e0⟩]
            rfl
          · rw [if_neg (c_ne e2 (by omega) (by omega)), if_neg (by simp [e2])]
        · rw [if_neg (c_ne e1 (by omega) (by omega)), if_neg (by simp [e1])]
      · rw [if_neg (c_ne e0 (by omega) (by omega)), if_neg (fun q => e0 q.2)]
theorem M_odds {S : St} {n np : Nat} {Y : Nat → Nat → Nat} (h : IvY S n np Y) (hnp : np ≤ 30) (h6 : gI S 11 0 6 = nI np) (F p0 k0 : Nat) (hF : 1000 ≤ F) (hp : p0 < 30) (hk0 : k0 < 10) (kk : Int32 → Int32 → Option Int32) : ∀ m i, i ≤ np → np < i + m → fX12_odds_L25 F S (nI p0) (nI k0) kk m (nI (cy (upO (fun j => decide (Y 1 j = p0 ∧ Y 2 j = k0)) (Y 0) (Y 3) n) i)) (nI (cn (upO (fun j => decide (Y 1 j = p0 ∧ Y 2 j = k0)) (Y 0) (Y 3) n) i)) (nI i) = kk (nI (cy (upO (fun j => decide (Y 1 j = p0 ∧ Y 2 j = k0)) (Y 0) (Y 3) n) np)) (nI (cn (upO (fun j => decide (Y 1 j = p0 ∧ Y 2 j = k0)) (Y 0) (Y 3) n) np)) := by
  intro m
  induction m with
  | zero => intro i q1 q2; omega
  | succ m ih =>
    intro i q1 q2
    simp only [fX12_odds_L25, fX12_odds_b25, h6]
    by_cases e : i = np
    · subst e; rw [if_pos (c_le (Nat.le_refl _) (by omega))]
    · rw [if_neg (c_nle (show i < np by omega) (by omega))]
      have h41 := M_odds1 h hnp F p0 k0 i hp hk0 (by omega) (nI (cy (upO (fun j => decide (Y 1 j = p0 ∧ Y 2 j = k0)) (Y 0) (Y 3) n) i)) (nI (cn (upO (fun j => decide (Y 1 j = p0 ∧ Y 2 j = k0)) (Y 0) (Y 3) n) i))
      have h41 : ∀ kk : Int32 → Option Int32, fX12_odds_L41 F S (nI p0) (nI k0) (nI (cy (upO (fun j => decide (Y 1 j = p0 ∧ Y 2 j = k0)) (Y 0) (Y 3) n) i)) (nI (cn (upO (fun j => decide (Y 1 j = p0 ∧ Y 2 j = k0)) (Y 0) (Y 3) n) i)) (nI i) kk F (-4) 0 = kk (vc4 (upO (fun j => decide (Y 1 j = p0 ∧ Y 2 j = k0)) (Y 0) (Y 3) n i)) := fun kk => h41 kk F 0 (by omega) (by have := h.1; omega)
      rw [h41]
      have ihh := ih (i + 1) (by omega) (by omega)
      rw [← ihh]
      have c1 : cy (upO (fun j => decide (Y 1 j = p0 ∧ Y 2 j = k0)) (Y 0) (Y 3) n) (i + 1) = cy (upO (fun j => decide (Y 1 j = p0 ∧ Y 2 j = k0)) (Y 0) (Y 3) n) i + (if upO (fun j => decide (Y 1 j = p0 ∧ Y 2 j = k0)) (Y 0) (Y 3) n i = 2 then 1 else 0) := by
        unfold cy; rw [fb_ct_succ]; simp only [decide_eq_true_eq]
      have c2 : cn (upO (fun j => decide (Y 1 j = p0 ∧ Y 2 j = k0)) (Y 0) (Y 3) n) (i + 1) = cn (upO (fun j => decide (Y 1 j = p0 ∧ Y 2 j = k0)) (Y 0) (Y 3) n) i + (if upO (fun j => decide (Y 1 j = p0 ∧ Y 2 j = k0)) (Y 0) (Y 3) n i = 1 then 1 else 0) := by
        unfold cn; rw [fb_ct_succ]; simp only [decide_eq_true_eq]
      rw [c1, c2]
      simp only [fX12_odds_j124, bnd_e, Int32.add_zero, nI_a1]
      obtain ⟨u, eu⟩ : ∃ u, u = upO (fun j => decide (Y 1 j = p0 ∧ Y 2 j = k0)) (Y 0) (Y 3) n i := ⟨_, rfl⟩
      have hu : u ≤ 2 := by
        have : ∀ k, k ≤ n → upO (fun j => decide (Y 1 j = p0 ∧ Y 2 j = k0)) (Y 0) (Y 3) k i ≤ 2 := by
          intro k
          induction k with
          | zero => intro _; simp [upO]
          | succ k ihk =>
            intro hk
            unfold upO
            by_cases em : (fun j => decide (Y 1 j = p0 ∧ Y 2 j = k0)) k = true ∧ Y 0 k = i
            · rw [if_pos em]; have := (h.2.2.2 k (by omega)).2.2.2.2.2.2.2.2.2.2.2; omega
            · rw [if_neg em]; exact ihk (by omega)
        rw [eu]; exact this n (Nat.le_refl n)
      rw [← eu]
      rcases (show u = 0 ∨ u = 1 ∨ u = 2 by omega) with q | q | q <;> rw [q] <;> rfl
theorem Q_odds {S : St} {n ny : Nat} {P Y : Nat → Nat → Nat} (h : IvP S n P) (hy : IvY S ny n Y) (F : Nat) (hF : 1000 ≤ F) (p1 p2 : Int32) : ∃ r, fX11_odds F S p1 p2 = some r ∧ fX12_odds F S p1 p2 = some r := by
  have hne : ¬ (1 : Int32) = 0 := by decide
  obtain ⟨h0, h1, h2, h3⟩ := id h
  rcases a_person p1 n h0 with ⟨c1, m1⟩ | ⟨a1, rfl, u1, c1, m1⟩
  · exact ⟨-1, by simp only [fX11_odds, c1 S h1, cal_s]; rfl, by simp only [fX12_odds, m1 S h2, cal_s]; rfl⟩
  rcases a_kin p2 with ⟨c2, m2⟩ | ⟨a2, rfl, u2, c2, m2⟩
  · exact ⟨-1, by simp only [fX11_odds, c1 S h1, c2, cal_s, if_neg hne]; rfl, by simp only [fX12_odds, m1 S h2, m2, cal_s, if_neg hne]; rfl⟩
  have s1 := C_odds hy h0 F a1 a2 (by omega) u2 (fun x y => some (x * y)) F 0 0 (by omega) (by have := hy.1; omega) (by decide) (fun p hp => by simp [dnO])
  have z1 : cy (dnO (fun j => decide (Y 1 j = a1 ∧ Y 2 j = a2)) (Y 0) (Y 3) ny 0) n = 0 := by
    unfold cy; exact fb_ct_zero.mpr (fun k _ => by simp [dnO])
  have z2 : cn (dnO (fun j => decide (Y 1 j = a1 ∧ Y 2 j = a2)) (Y 0) (Y 3) ny 0) n = 0 := by
    unfold cn; exact fb_ct_zero.mpr (fun k _ => by simp [dnO])
  rw [z1, z2, Nat.sub_zero] at s1
  have s2 := M_odds hy h0 h2 F a1 a2 hF (by omega) u2 (fun x y => some (x * y)) F 0 (by omega) (by omega)
  have hud : upO (fun j => decide (Y 1 j = a1 ∧ Y 2 j = a2)) (Y 0) (Y 3) ny = dnO (fun j => decide (Y 1 j = a1 ∧ Y 2 j = a2)) (Y 0) (Y 3) ny ny := funext (fun p => up_is_dn _ _ _ _ _)
  rw [hud] at s2
  refine ⟨nI (cy (dnO (fun j => decide (Y 1 j = a1 ∧ Y 2 j = a2)) (Y 0) (Y 3) ny ny) n) * nI (cn (dnO (fun j => decide (Y 1 j = a1 ∧ Y 2 j = a2)) (Y 0) (Y 3) ny ny) n), ?_, ?_⟩
  · simp only [fX11_odds, c1 S h1, c2, cal_s, if_neg hne, fX7_pairsAtOdds, bnd_e, hy.2.1]
    rw [show fX7_pairsAtOdds_L16 F S (nI a1) (nI a2) (fun x y => some (x * y)) F 0 0 0 (nI ny - 1) = _ from s1]
    rfl
  · simp only [fX12_odds, m1 S h2, m2, cal_s, if_neg hne]
    exact s2
