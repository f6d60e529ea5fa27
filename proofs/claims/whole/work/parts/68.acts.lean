/-! WORDS LEARNT, AND THE FIVE QUESTIONS ABOUT ACTS -/
/-- nothing but the arrays of kind k changes -/
def OffK (k : Nat) (S S' : St) : Prop := (∀ c n j, c ≠ k → gA S' c n j = gA S c n j) ∧ gI S' = gI S ∧ gC S' = gC S
theorem OffK.rf (k : Nat) (S : St) : OffK k S S := ⟨fun _ _ _ _ => rfl, rfl, rfl⟩
theorem OffK.tr {k : Nat} {S S1 S2 : St} (h : OffK k S S1) (g : OffK k S1 S2) : OffK k S S2 := ⟨fun c n j hc => (g.1 c n j hc).trans (h.1 c n j hc), g.2.1.trans h.2.1, g.2.2.trans h.2.2⟩
theorem OffK.pA {k : Nat} {S S1 : St} (h : OffK k S S1) (n j : Nat) (v : Int32) : OffK k S (pA S1 k n j v) := ⟨fun c n' j' hc => by rw [gA_pc _ _ _ _ _ _ hc]; exact h.1 c n' j' hc, h.2.1, h.2.2⟩
theorem OffK.ch {k : Nat} {S S' : St} (h : OffK k S S') (hk : ∀ n j, ownA k n j = 99) : Ch 99 S S' := by
  refine ⟨fun c n j _ _ => by rw [h.2.1], fun c n j a _ => h.1 c n j (fun e => a (by rw [e]; exact hk n j))⟩
theorem own52 (n j : Nat) : ownA 52 n j = 99 := rfl
theorem own74 (n j : Nat) : ownA 74 n j = 99 := rfl
theorem IvI.off {k : Nat} {S S' : St} {t n : Nat} {E : Nat → Nat → Nat} (h : IvI S t n E) (g : OffK k S S') (hk : ∀ n j, ownA k n j = 99) (ht : t < 2) : IvI S' t n E := h.ch (g.ch hk) (by omega) ht
theorem IvW.off {k : Nat} {S S' : St} {t n : Nat} {E : Nat → Nat → Nat} (h : IvW S t n E) (g : OffK k S S') (hk : ∀ n j, ownA k n j = 99) (ht : t < 2) : IvW S' t n E := h.ch (g.ch hk) (by omega) ht
theorem C_learnL {t nv n : Nat} {V E : Nat → Nat → Nat} (ht : t < 2) (F y : Nat) (hF : 1000 ≤ F) (hy : y ≤ 200) : ∀ m i S, i ≤ 8 → 8 < i + m → IvW S t nv V → IvI S t n E → (∀ w, w < i → gA S 52 t w = nI (mean V E nv n w y)) → ∃ S', fX10_learn_L2 F t (nI y) m (nI i) S = some S' ∧ OffK 52 S S' ∧ (∀ u j, u ≠ t → gA S' 52 u j = gA S 52 u j) ∧ ∀ w, w < 8 → gA S' 52 t w = nI (mean V E nv n w y) := by
  intro m
  induction m with
  | zero => intro i S q1 q2; omega
  | succ m ih =>
    intro i S q1 q2 hv h hw
    simp only [fX10_learn_L2, fX10_learn_b2]
    by_cases e : i = 8
    · subst e
      rw [if_pos (show (8 : Int32) ≤ nI 8 by decide)]
      exact ⟨S, rfl, OffK.rf _ _, fun _ _ _ => rfl, hw⟩
    · have e8 : ¬ (8 : Int32) ≤ nI i := c_nle (a := 8) (by omega) (by omega)
      rw [if_neg e8, C_mean hv h ht F i y hF (by omega) hy, cal_s, ix_nI (show i < 8 by omega) (by decide), gd_t, bnd_e, cl (by omega), nI_a1]
      have o1 : OffK 52 S (pA S 52 t i (nI (mean V E nv n i y))) := (OffK.rf 52 S).pA t i _
      obtain ⟨S', r1, r2, r3, r4⟩ := ih (i + 1) _ (by omega) (by omega) (hv.off o1 own52 ht) (h.off o1 own52 ht) (fun w hw2 => by
        by_cases ew : w = i
        · subst ew; rw [gA_ps]
        · rw [gA_pi _ _ _ _ _ _ ew]; exact hw w (by omega))
      exact ⟨S', r1, o1.tr r2, fun u j hu => by rw [r3 u j hu, gA_pn _ _ _ _ _ _ hu], r4⟩
theorem C_learn {S : St} {t nv n : Nat} {V E : Nat → Nat → Nat} (ht : t < 2) (F y : Nat) (hF : 1000 ≤ F) (hy : y ≤ 200) (hv : IvW S t nv V) (h : IvI S t n E) : ∃ S', fX10_learn F S t (nI y) = some S' ∧ OffK 52 S S' ∧ (∀ u j, u ≠ t → gA S' 52 u j = gA S 52 u j) ∧ ∀ w, w < 8 → gA S' 52 t w = nI (mean V E nv n w y) := by
  obtain ⟨S', r⟩ := C_learnL (nv := nv) (n := n) (V := V) (E := E) ht F y hF hy F 0 S (by omega) (by omega) hv h (fun w hw => by omega)
  exact ⟨S', by unfold fX10_learn; rw [gd_p ht]; exact r.1, r.2⟩
/-- the class's state for questions about acts, and the model's -/
def CD (n : Nat → Nat) (E : Nat → Nat → Nat → Nat) (M : Nat → Nat → Nat) (S : St) : Prop := (∀ t, t < 2 → IvI S t (n t) (E t)) ∧ ∀ t, t < 2 → ∀ w, w < 8 → gA S 52 t w = nI (M t w) ∧ M t w < 64
def MD (n : Nat → Nat) (E : Nat → Nat → Nat → Nat) (M : Nat → Nat → Nat) (S : St) : Prop := (∀ t, t < 2 → IvI S t (n t) (E t)) ∧ ∀ t, t < 2 → ∀ w, w < 8 → gA S 74 0 (8 * t + w) = nI (M t w) ∧ M t w < 64
theorem C_learn2 {S : St} {nv n : Nat → Nat} {V E : Nat → Nat → Nat → Nat} (F y : Nat) (hF : 1000 ≤ F) (hy : y ≤ 200) (hv : ∀ t, t < 2 → IvW S t (nv t) (V t)) (h : ∀ t, t < 2 → IvI S t (n t) (E t)) : ∃ S', fX11_learn F S (nI y) = some S' ∧ OffK 52 S S' ∧ CD n E (fun t w => mean (V t) (E t) (nv t) (n t) w y) S' := by
  obtain ⟨S1, a1, a2, a3, a4⟩ := C_learn (t := 0) (by decide) F y hF hy (hv 0 (by decide)) (h 0 (by decide))
  obtain ⟨S2, b1, b2, b3, b4⟩ := C_learn (t := 1) (by decide) F y hF hy ((hv 1 (by decide)).off a2 own52 (by decide)) ((h 1 (by decide)).off a2 own52 (by decide))
  refine ⟨S2, by unfold fX11_learn; rw [a1, cal_s, b1, cal_s], a2.tr b2, fun t ht => (h t ht).off (a2.tr b2) own52 ht, fun t ht w hw => ?_⟩
  rcases (show t = 0 ∨ t = 1 by omega) with rfl | rfl
  · exact ⟨by rw [b3 0 w (by decide)]; exact a4 w hw, mean_lt (hv 0 (by decide)) (h 0 (by decide)) w y⟩
  · exact ⟨b4 w hw, mean_lt (hv 1 (by decide)) (h 1 (by decide)) w y⟩
theorem M_layL {t nv n : Nat} {V E : Nat → Nat → Nat} (ht : t < 2) (F y : Nat) (hF : 1000 ≤ F) (hy : y ≤ 200) (k : St → Option St) : ∀ m i S, i ≤ 8 → 8 < i + m → IvW S t nv V → IvI S t n E → (∀ w, w < i → gA S 74 0 (8 * t + w) = nI (mean V E nv n w y)) → ∃ S', fX12_layWords_L9 F (nI y) (nI t) k m (nI i) S = k S' ∧ OffK 74 S S' ∧ (∀ j, j < 8 * t → gA S' 74 0 j = gA S 74 0 j) ∧ ∀ w, w < 8 → gA S' 74 0 (8 * t + w) = nI (mean V E nv n w y) := by
  intro m
  induction m with
  | zero => intro i S q1 q2; omega
  | succ m ih =>
    intro i S q1 q2 hv h hw
    simp only [fX12_layWords_L9, fX12_layWords_b9]
    by_cases e : i = 8
    · subst e
      rw [if_pos (show (8 : Int32) ≤ nI 8 by decide)]
      exact ⟨S, rfl, OffK.rf _ _, fun _ _ => rfl, hw⟩
    · have e8 : ¬ (8 : Int32) ≤ nI i := c_nle (a := 8) (by omega) (by omega)
      have e1 : (8 : Int32) * nI t + nI i = nI (8 * t + i) := by rw [show (8 : Int32) * nI t = nI (8 * t) from pk_mul 8 t, nI_add]
      rw [if_neg e8, M_mean hv h ht F i y hF (by omega) hy, cal_s, e1, ix_nI (show 8 * t + i < 16 by omega) (by decide), gd_t, bnd_e, cl (by omega), nI_a1]
      have o1 : OffK 74 S (pA S 74 0 (8 * t + i) (nI (mean V E nv n i y))) := (OffK.rf 74 S).pA 0 (8 * t + i) _
      obtain ⟨S', r1, r2, r3, r4⟩ := ih (i + 1) _ (by omega) (by omega) (hv.off o1 own74 ht) (h.off o1 own74 ht) (fun w hw2 => by
        by_cases ew : w = i
        · subst ew; rw [gA_ps]
        · rw [gA_pi _ _ _ _ _ _ (show 8 * t + w ≠ 8 * t + i by omega)]; exact hw w (by omega))
      exact ⟨S', r1, o1.tr r2, fun j hu => by rw [r3 j hu, gA_pi _ _ _ _ _ _ (show j ≠ 8 * t + i by omega)], r4⟩
theorem M_lay {S : St} {nv n : Nat → Nat} {V E : Nat → Nat → Nat → Nat} (F y : Nat) (hF : 1000 ≤ F) (hy : y ≤ 200) (hv : ∀ t, t < 2 → IvW S t (nv t) (V t)) (h : ∀ t, t < 2 → IvI S t (n t) (E t)) : ∃ S', fX12_layWords F S (nI y) = some S' ∧ OffK 74 S S' ∧ MD n E (fun t w => mean (V t) (E t) (nv t) (n t) w y) S' := by
  obtain ⟨F', rfl⟩ : ∃ F', F = F' + 3 := ⟨F - 3, by omega⟩
  obtain ⟨S1, a1, a2, a3, a4⟩ := M_layL (t := 0) (by decide) (F' + 3) y hF hy (fun S_3 => fX12_layWords_L2 (F' + 3) (nI y) (F' + 2) (nI 0 + 1) S_3) (F' + 3) 0 S (by omega) (by omega) (hv 0 (by decide)) (h 0 (by decide)) (fun w hw => by omega)
  obtain ⟨S2, b1, b2, b3, b4⟩ := M_layL (t := 1) (by decide) (F' + 3) y hF hy (fun S_3 => fX12_layWords_L2 (F' + 3) (nI y) (F' + 1) (nI 1 + 1) S_3) (F' + 3) 0 S1 (by omega) (by omega) ((hv 1 (by decide)).off a2 own74 (by decide)) ((h 1 (by decide)).off a2 own74 (by decide)) (fun w hw => by omega)
  refine ⟨S2, ?_, a2.tr b2, fun t ht => (h t ht).off (a2.tr b2) own74 ht, fun t ht w hw => ?_⟩
  · unfold fX12_layWords
    rw [show F' + 3 = (F' + 2) + 1 from rfl, fX12_layWords_L2, fX12_layWords_b2, if_neg (show ¬ (2 : Int32) ≤ 0 by decide)]
    refine Eq.trans a1 ?_
    show fX12_layWords_L2 (F' + 3) (nI y) (F' + 2) (nI 0 + 1) S1 = some S2
    rw [show F' + 2 = (F' + 1) + 1 from rfl, fX12_layWords_L2, fX12_layWords_b2, if_neg (show ¬ (2 : Int32) ≤ nI 0 + 1 by decide)]
    refine Eq.trans b1 ?_
    show fX12_layWords_L2 (F' + 3) (nI y) (F' + 1) (nI 1 + 1) S2 = some S2
    rw [fX12_layWords_L2, fX12_layWords_b2, if_pos (show (2 : Int32) ≤ nI 1 + 1 by decide)]
  · rcases (show t = 0 ∨ t = 1 by omega) with rfl | rfl
    · exact ⟨by rw [b3 (8 * 0 + w) (by omega)]; exact a4 w hw, mean_lt (hv 0 (by decide)) (h 0 (by decide)) w y⟩
    · exact ⟨b4 w hw, mean_lt (hv 1 (by decide)) (h 1 (by decide)) w y⟩
def dif (n : Nat → Nat) (E : Nat → Nat → Nat → Nat) (M : Nat → Nat → Nat) (a y f : Nat) : Bool := letB (E 0) (rl (E 0) (M 0) (a / 6) (a % 6) y f (n 0)) != letB (E 1) (rl (E 1) (M 1) (a / 6) (a % 6) y f (n 1))
theorem if01 (a b : Bool) : (if (if a = true then (1 : Int32) else 0) = (if b = true then (1 : Int32) else 0) then some (0 : Int32) else some 1) = some (if (a != b) = true then 1 else 0) := by cases a <;> cases b <;> rfl
theorem C_differ {S : St} {n : Nat → Nat} {E : Nat → Nat → Nat → Nat} {M : Nat → Nat → Nat} (h : CD n E M S) (F a y f : Nat) (hF : 1000 ≤ F) (ha : a < 36) (hy : y ≤ 200) : fX11_differ F S (nI a) (nI y) (nI f) = some (if dif n E M a y f = true then 1 else 0) := by
  have a6 := act6 ⟨a, ha⟩
  simp only at a6
  have d6 : (!(decide ((6 : Int32) = (0 : Int32)))) = true := by decide
  unfold fX11_differ
  simp only [d6, gd_t, bnd_e, a6.1, a6.2]
  rw [C_lets (h.1 0 (by decide)) (by decide) (h.2 0 (by decide)) F (a / 6) (a % 6) y f hF (by omega) (by omega) hy, cal_s, C_lets (h.1 1 (by decide)) (by decide) (h.2 1 (by decide)) F (a / 6) (a % 6) y f hF (by omega) (by omega) hy, cal_s]
  exact if01 _ _
theorem M_differ {S : St} {n : Nat → Nat} {E : Nat → Nat → Nat → Nat} {M : Nat → Nat → Nat} (h : MD n E M S) (F a y f : Nat) (hF : 1000 ≤ F) (ha : a < 36) (hy : y ≤ 200) : fX12_isUnlike F S (nI a) (nI y) (nI f) = some (if dif n E M a y f = true then 1 else 0) := by
  unfold fX12_isUnlike
  have m0 := M_lets (h.1 0 (by decide)) (by decide) (h.2 0 (by decide)) F a y f hF ha hy
  have m1 := M_lets (h.1 1 (by decide)) (by decide) (h.2 1 (by decide)) F a y f hF ha hy
  rw [show (0 : Int32) = nI 0 from rfl, show (1 : Int32) = nI 1 from rfl, m0, cal_s, m1, cal_s]
  exact if01 _ _
