theorem hb_nI {h p : Nat} (hh : h < 2147483648) (hp : p < 31) : hb (nI h) (nI p) = if h.testBit p then 1 else 0 := by
  unfold hb
  rw [pk_shrN hh (nI p &&& 31) p (s_l p (by omega))]
  have e1 : nI (h / 2 ^ p) &&& 1 = nI (h / 2 ^ p % 2) := pk_andN (n := h / 2 ^ p) (by have := Nat.div_le_self h (2 ^ p); omega) (m := 1) 1 (by decide)
  rw [e1, Nat.testBit_eq_decide_div_mod_eq]
  have h2 : h / 2 ^ p % 2 < 2 := Nat.mod_lt _ (by decide)
  by_cases e : h / 2 ^ p % 2 = 1
  · rw [e]; rfl
  · have e0 : h / 2 ^ p % 2 = 0 := by omega
    rw [e0]; rfl
/-- the reference's walk over the kins -/
theorem lay1 {S : St} {i a s x : Nat} {kn : Nat → Nat} (F : Nat) (k : St → Option St) (rec : Int32 → St → Option St) (hi : i < 30) (hx : x < 2 * i + 2) (h60 : gA S 60 0 x = nI a - 1) (ha : a ≤ i) (h75 : gA S 75 0 i = nI s) (hk : ∀ j, j < i → gA S 75 0 j = nI (kn j)) : fX12_layKins_b26 F (nI i) k rec (nI x) S = rec (nI (x + 1)) (pA S 75 0 i (nI (s ||| (if a = 0 then 0 else kn (a - 1))))) := by
  have e2 : (2 : Int32) * nI i + 2 = nI (2 * i + 2) := by rw [show (2 : Int32) * nI i = nI (2 * i) from pk_mul 2 i]; exact nI_add _ 2
  have i1 := ix_nI hi (by decide)
  have i2 := ix_nI (show x < 60 by omega) (by decide)
  unfold fX12_layKins_b26
  simp only [e2, if_neg (c_nle hx (by omega)), i1, i2, gd_t, cl (show x < 2147483648 by omega), cl (show i < 2147483648 by omega), h60, h75, fX12_layKins_j66, bnd_e, nI_a1]
  by_cases e : a = 0
  · subst e
    rw [if_pos (show nI 0 - 1 < 0 by decide)]
    simp only [if_true, Int32.or_zero, Nat.or_zero]
  · rw [cl_m1 (by omega) (by omega), if_neg (nI_pos (by omega)), ix_nI (show a - 1 < 30 by omega) (by decide), gd_t, cl (show a - 1 < 2147483648 by omega), hk (a - 1) (by omega), fa_or, if_neg e]
def Off75 (S S' : St) : Prop := (∀ c n j, c ≠ 75 → gA S' c n j = gA S c n j) ∧ gI S' = gI S ∧ gC S' = gC S
theorem Off75.ch {S S' : St} (h : Off75 S S') : Ch 99 S S' := ⟨fun c n j _ _ => by rw [h.2.1], fun c n j a b => h.1 c n j (fun q => a (by rw [q]; rfl))⟩
theorem L_lay {n : Nat} {P : Nat → Nat → Nat} (F : Nat) (hF : 1000 ≤ F) (hn : n ≤ 30) (hp : ∀ i, i < n → P 2 i ≤ i ∧ P 3 i ≤ i ∧ P 5 i = P 4 i ||| (if P 2 i = 0 then 0 else P 5 (P 2 i - 1)) ||| (if P 3 i = 0 then 0 else P 5 (P 3 i - 1))) : ∀ m i (S : St), i ≤ n → n < i + m → gI S 11 0 6 = nI n → (∀ j, j < n → gA S 60 0 (2 * j) = nI (P 2 j) - 1 ∧ gA S 60 0 (2 * j + 1) = nI (P 3 j) - 1 ∧ gA S 62 0 j = nI (P 4 j)) → (∀ j, j < i → gA S 75 0 j = nI (P 5 j)) → ∃ S', fX12_layKins_L2 F m (nI i) S = some S' ∧ Off75 S S' ∧ ∀ j, j < n → gA S' 75 0 j = nI (P 5 j) := by
  intro m
  induction m with
  | zero => intro i S q1 q2; omega
  | succ m ih =>
    intro i S q1 q2 h1 h2 h3
    simp only [fX12_layKins_L2, fX12_layKins_b2, h1]
    by_cases e : i = n
    · subst e
      exact ⟨S, by rw [if_pos (c_le (Nat.le_refl i) (by omega))], ⟨fun _ _ _ _ => rfl, rfl, rfl⟩, h3⟩
    · rw [if_neg (c_nle (show i < n by omega) (by omega))]
      obtain ⟨a1, a2, a3⟩ := h2 i (by omega)
      obtain ⟨b1, b2, b3⟩ := hp i (by omega)
      have i1 := ix_nI (show i < 30 by omega) (by decide)
      simp only [i1, gd_t, bnd_e, cl (show i < 2147483648 by omega), a3, show (2 : Int32) * nI i = nI (2 * i) from pk_mul 2 i, nI_a1]
      obtain ⟨f, rfl⟩ : ∃ f, F = f + 3 := ⟨F - 3, by omega⟩
      obtain ⟨S1, e1⟩ : ∃ S1 : St, S1 = pA S 75 0 i (nI (P 4 i)) := ⟨_, rfl⟩
      rw [← e1]
      have g1 : ∀ j, j < i → gA S1 75 0 j = nI (P 5 j) := fun j hj => by rw [e1]; simp (disch := omega) only [gA_ps, gA_pe, gA_pc, gA_pi, gA_pn, gI_ps, gI_pc, gI_pk, gI_pn, gB_ps, gB_pc, gB_pi, gJ_ps, gJ_pc, gA_pI, gA_pB, gA_pJ, gI_pA, gI_pB, gI_pJ, gB_pI, gB_pA, gB_pJ, gJ_pI, gJ_pA, gJ_pB]; exact h3 j hj
      have st1 := lay1 (S := S1) (i := i) (a := P 2 i) (s := P 4 i) (x := 2 * i) (kn := P 5) (f + 3) (fun S_4 => fX12_layKins_L2 (f + 3) m (nI (i + 1)) S_4) (fX12_layKins_L26 (f + 3) (nI i) (fun S_4 => fX12_layKins_L2 (f + 3) m (nI (i + 1)) S_4) (f + 2)) (by omega) (by omega) (by rw [e1]; simp (disch := omega) only [gA_ps, gA_pe, gA_pc, gA_pi, gA_pn, gI_ps, gI_pc, gI_pk, gI_pn, gB_ps, gB_pc, gB_pi, gJ_ps, gJ_pc, gA_pI, gA_pB, gA_pJ, gI_pA, gI_pB, gI_pJ, gB_pI, gB_pA, gB_pJ, gJ_pI, gJ_pA, gJ_pB]; exact a1) b1 (by rw [e1]; simp (disch := omega) only [gA_ps, gA_pe, gA_pc, gA_pi, gA_pn, gI_ps, gI_pc, gI_pk, gI_pn, gB_ps, gB_pc, gB_pi, gJ_ps, gJ_pc, gA_pI, gA_pB, gA_pJ, gI_pA, gI_pB, gI_pJ, gB_pI, gB_pA, gB_pJ, gJ_pI, gJ_pA, gJ_pB]) g1
      obtain ⟨S2, e2⟩ : ∃ S2 : St, S2 = pA S1 75 0 i (nI (P 4 i ||| (if P 2 i = 0 then 0 else P 5 (P 2 i - 1)))) := ⟨_, rfl⟩
      rw [← e2] at st1
      have g2 : ∀ j, j < i → gA S2 75 0 j = nI (P 5 j) := fun j hj => by rw [e2]; simp (disch := omega) only [gA_ps, gA_pe, gA_pc, gA_pi, gA_pn, gI_ps, gI_pc, gI_pk, gI_pn, gB_ps, gB_pc, gB_pi, gJ_ps, gJ_pc, gA_pI, gA_pB, gA_pJ, gI_pA, gI_pB, gI_pJ, gB_pI, gB_pA, gB_pJ, gJ_pI, gJ_pA, gJ_pB]; exact g1 j hj
      have st2 := lay1 (S := S2) (i := i) (a := P 3 i) (s := P 4 i ||| (if P 2 i = 0 then 0 else P 5 (P 2 i - 1))) (x := 2 * i + 1) (kn := P 5) (f + 3) (fun S_4 => fX12_layKins_L2 (f + 3) m (nI (i + 1)) S_4) (fX12_layKins_L26 (f + 3) (nI i) (fun S_4 => fX12_layKins_L2 (f + 3) m (nI (i + 1)) S_4) (f + 1)) (by omega) (by omega) (by rw [e2, e1]; simp (disch := omega) only [gA_ps, gA_pe, gA_pc, gA_pi, gA_pn, gI_ps, gI_pc, gI_pk, gI_pn, gB_ps, gB_pc, gB_pi, gJ_ps, gJ_pc, gA_pI, gA_pB, gA_pJ, gI_pA, gI_pB, gI_pJ, gB_pI, gB_pA, gB_pJ, gJ_pI, gJ_pA, gJ_pB]; exact a2) b2 (by rw [e2]; simp (disch := omega) only [gA_ps, gA_pe, gA_pc, gA_pi, gA_pn, gI_ps, gI_pc, gI_pk, gI_pn, gB_ps, gB_pc, gB_pi, gJ_ps, gJ_pc, gA_pI, gA_pB, gA_pJ, gI_pA, gI_pB, gI_pJ, gB_pI, gB_pA, gB_pJ, gJ_pI, gJ_pA, gJ_pB]) g2
      rw [← b3] at st2
      obtain ⟨S3, e3⟩ : ∃ S3 : St, S3 = pA S2 75 0 i (nI (P 5 i)) := ⟨_, rfl⟩
      rw [← e3] at st2
      have fin : fX12_layKins_L26 (f + 3) (nI i) (fun S_4 => fX12_layKins_L2 (f + 3) m (nI (i + 1)) S_4) (f + 3) (nI (2 * i)) S1 = fX12_layKins_L2 (f + 3) m (nI (i + 1)) S3 := by
        show fX12_layKins_b26 _ _ _ (fX12_layKins_L26 (f + 3) (nI i) _ (f + 2)) _ _ = _
        rw [st1]
        show fX12_layKins_b26 _ _ _ (fX12_layKins_L26 (f + 3) (nI i) _ (f + 1)) _ _ = _
        rw [st2]
        show fX12_layKins_b26 _ _ _ (fX12_layKins_L26 (f + 3) (nI i) _ f) _ _ = _
        have e4 : (2 : Int32) * nI i + 2 = nI (2 * i + 2) := by rw [show (2 : Int32) * nI i = nI (2 * i) from pk_mul 2 i]; exact nI_add _ 2
        unfold fX12_layKins_b26
        rw [e4, if_pos (c_le (by omega) (by omega))]
      rw [fin]
      obtain ⟨S', r1, r2, r3⟩ := ih (i + 1) S3 (by omega) (by omega) (by rw [e3, e2, e1]; simp (disch := omega) only [gA_ps, gA_pe, gA_pc, gA_pi, gA_pn, gI_ps, gI_pc, gI_pk, gI_pn, gB_ps, gB_pc, gB_pi, gJ_ps, gJ_pc, gA_pI, gA_pB, gA_pJ, gI_pA, gI_pB, gI_pJ, gB_pI, gB_pA, gB_pJ, gJ_pI, gJ_pA, gJ_pB]; exact h1) (fun j hj => by rw [e3, e2, e1]; simp (disch := omega) only [gA_ps, gA_pe, gA_pc, gA_pi, gA_pn, gI_ps, gI_pc, gI_pk, gI_pn, gB_ps, gB_pc, gB_pi, gJ_ps, gJ_pc, gA_pI, gA_pB, gA_pJ, gI_pA, gI_pB, gI_pJ, gB_pI, gB_pA, gB_pJ, gJ_pI, gJ_pA, gJ_pB]; exact h2 j hj) (fun j hj => by
        by_cases ej : j = i
        · subst ej; rw [e3]; simp (disch := omega) only [gA_ps, gA_pe, gA_pc, gA_pi, gA_pn, gI_ps, gI_pc, gI_pk, gI_pn, gB_ps, gB_pc, gB_pi, gJ_ps, gJ_pc, gA_pI, gA_pB, gA_pJ, gI_pA, gI_pB, gI_pJ, gB_pI, gB_pA, gB_pJ, gJ_pI, gJ_pA, gJ_pB]
        · rw [e3]; simp (disch := omega) only [gA_ps, gA_pe, gA_pc, gA_pi, gA_pn, gI_ps, gI_pc, gI_pk, gI_pn, gB_ps, gB_pc, gB_pi, gJ_ps, gJ_pc, gA_pI, gA_pB, gA_pJ, gI_pA, gI_pB, gI_pJ, gB_pI, gB_pA, gB_pJ, gJ_pI, gJ_pA, gJ_pB]; exact g2 j (by omega))
      refine ⟨S', r1, ⟨fun c nn j hc => ?_, r2.2.1.trans (by rw [e3, e2, e1]; rfl), r2.2.2.trans (by rw [e3, e2, e1]; rfl)⟩, r3⟩
      rw [r2.1 c nn j hc, e3, gA_pc _ _ _ _ _ _ hc, e2, gA_pc _ _ _ _ _ _ hc, e1, gA_pc _ _ _ _ _ _ hc]
theorem Q_lay {S : St} {n : Nat} {P : Nat → Nat → Nat} (h : IvP S n P) (F : Nat) (hF : 1000 ≤ F) : ∃ S', fX12_layKins F S = some S' ∧ Off75 S S' ∧ ∀ j, j < n → gA S' 75 0 j = nI (P 5 j) := by
  obtain ⟨h0, h1, h2, h3⟩ := h
  exact L_lay F hF h0 (fun i hi => by
    obtain ⟨q0, q1, q2, q3, q4, q5, q6, q7, q8, q9, q10, x0, x1, x2, x3, x4, x5, x6⟩ := h3 i hi
    exact ⟨x2, x3, x6⟩) F 0 S (by omega) (by omega) h2 (fun i hi => by
    obtain ⟨q0, q1, q2, q3, q4, q5, q6, q7, q8, q9, q10, x⟩ := h3 i hi
    exact ⟨q8, q9, q10⟩) (fun j hj => by omega)
/-! OF -/
def lastS (M : Nat → Bool) (v : Nat → Nat) : Nat → Nat
  | 0 => 0
  | i + 1 => if M i then v i else lastS M v i
theorem C_said {S : St} {n np : Nat} {Y : Nat → Nat → Nat} (h : IvY S n np Y) (hnp : np ≤ 30) (F p k : Nat) (hp : p < 30) (hk : k < 10) : ∀ m i, i ≤ n → i < m → fX7_isSaidToBe_L7 F S (nI p) (nI k) (fun x3_3 => gd (ix x3_3 20) <| gd (isB (gA S 43 0 x3_3.toNatClampNeg)) <| some (gA S 43 0 x3_3.toNatClampNeg)) m (nI i - 1) = some (nI (lastS (fun j => decide (Y 1 j = p ∧ Y 2 j = k)) (Y 3) i)) := by
  obtain ⟨h0, h1, h2, h3⟩ := h
  intro m
  induction m with
  | zero => intro i q1 q2; omega
  | succ m ih =>
    intro i q1 q2
    simp only [fX7_isSaidToBe_L7, fX7_isSaidToBe_b7]
    cases i with
    | zero => rw [if_pos (show nI 0 - 1 < 0 by decide)]; rfl
    | succ i =>
      obtain ⟨a0, a1, a2, a3, -, -, -, -, x0, x1, x2, x3⟩ := h3 i (by omega)
      rw [nI_pred, if_neg (nI_pos (by omega))]
      have i1 := ix_nI (show i < 20 by omega) (by decide)
      have hm1 : nI i + -1 = nI i - 1 := (Int32.sub_eq_add_neg _ _).symm
      simp only [fX7_isSaying, i1, gd_t, cl (show i < 2147483648 by omega), a1, a2, a3, hm1, lastS]
      have hb3 : isB (nI (Y 3 i)) = true := by rcases (show Y 3 i = 0 ∨ Y 3 i = 1 by omega) with q | q <;> rw [q] <;> rfl
      by_cases e1 : Y 1 i = p
      · by_cases e2 : Y 2 i = k
        · rw [if_pos (show nI (Y 1 i) = nI p by rw [e1]), if_pos (show nI (Y 2 i) = nI k by rw [e2]), cal_s, if_neg (by decide), hb3, gd_t, if_pos (by simp [e1, e2])]
        · rw [if_pos (show nI (Y 1 i) = nI p by rw [e1]), if_neg (c_ne e2 (by omega) (by omega)), cal_s, if_pos rfl, ih i (by omega) (by omega), if_neg (by simp [e2])]
      · rw [if_neg (c_ne e1 (by omega) (by omega)), cal_s, if_pos rfl, ih i (by omega) (by omega), if_neg (by simp [e1])]
theorem M_said {S : St} {n np : Nat} {Y : Nat → Nat → Nat} (h : IvY S n np Y) (hnp : np ≤ 30) (F p k : Nat) (hp : p < 30) (hk : k < 10) : ∀ m i, i ≤ n → n < i + m → fX12_of_L41 F S (nI p) (nI k) m (nI (lastS (fun j => decide (Y 1 j = p ∧ Y 2 j = k)) (Y 3) i)) (nI (4 * i)) = some (nI (lastS (fun j => decide (Y 1 j = p ∧ Y 2 j = k)) (Y 3) n), S) := by
  obtain ⟨h0, h1, h2, h3⟩ := h
  intro m
  induction m with
  | zero => intro i q1 q2; omega
  | succ m ih =>
    intro i q1 q2
    have e4 : (4 : Int32) * nI n = nI (4 * n) := pk_mul 4 n
    simp only [fX12_of_L41, fX12_of_b41, h2, e4]
    by_cases e : i = n
    · subst e; rw [if_pos (c_le (Nat.le_refl _) (by omega))]
    · obtain ⟨-, -, -, -, a0, a1, a2, a3, x0, x1, x2, x3⟩ := h3 i (by omega)
      rw [if_neg (c_nle (show 4 * i < 4 * n by omega) (by omega))]
      have ihh := ih (i + 1) (by omega) (by omega)
      have f1 : nI (4 * i) + 1 = nI (4 * i + 1) := nI_add _ 1
      have f2 : nI (4 * i) + 2 = nI (4 * i + 2) := nI_add _ 2
      have f3 : nI (4 * i) + 3 = nI (4 * i + 3) := nI_add _ 3
      have f4 : nI (4 * i) + 4 = nI (4 * (i + 1)) := nI_add _ 4
      simp only [f1, f2, f3, f4, ix_nI (show 4 * i + 1 < 80 by omega) (by decide), ix_nI (show 4 * i + 2 < 80 by omega) (by decide), ix_nI (show 4 * i + 3 < 80 by omega) (by decide), gd_t, cl (show 4 * i + 1 < 2147483648 by omega), cl (show 4 * i + 2 < 2147483648 by omega), cl (show 4 * i + 3 < 2147483648 by omega), a1, a2, a3, bnd_e]
      rw [← ihh]
      simp only [lastS]
      by_cases e1 : Y 1 i = p
      · by_cases e2 : Y 2 i = k
        · rw [if_pos (show nI (Y 1 i) = nI p by rw [e1]), if_pos (show nI (Y 2 i) = nI k by rw [e2]), if_pos (by simp [e1, e2])]
        · rw [if_pos (show nI (Y 1 i) = nI p by rw [e1]), if_neg (c_ne e2 (by omega) (by omega)), if_neg (by simp [e2])]
      · rw [if_neg (c_ne e1 (by omega) (by omega)), if_neg (by simp [e1])]
theorem lastS_lt {M : Nat → Bool} {v : Nat → Nat} {n : Nat} (h : ∀ i, i < n → v i < 2) : lastS M v n < 2 := by
  induction n with
  | zero => exact Nat.zero_lt_two
  | succ n ih =>
    unfold lastS
    by_cases e : M n
    · rw [if_pos e]; exact h n (by omega)
    · rw [if_neg e]; exact ih (fun i hi => h i (by omega))
theorem Q_of {S : St} {n ny : Nat} {P Y : Nat → Nat → Nat} (h : IvP S n P) (hy : IvY S ny n Y) (F : Nat) (hF : 1000 ≤ F) (p1 p2 : Int32) : ∃ (r : Int32) (S2 : St), fX11_of F S p1 p2 = some r ∧ fX12_of F S p1 p2 = some (r, S2) ∧ Ch 99 S S2 ∧ gC S2 = gC S := by
  have hne : ¬ (1 : Int32) = 0 := by decide
  obtain ⟨h0, h1, h2, h3⟩ := id h
  rcases a_person p1 n h0 with ⟨c1, m1⟩ | ⟨a1, rfl, u1, c1, m1⟩
  · exact ⟨-1, S, by simp only [fX11_of, c1 S h1, cal_s]; rfl, by simp only [fX12_of, m1 S h2, cal_s]; rfl, Ch.rf _ _, rfl⟩
  rcases a_kin p2 with ⟨c2, m2⟩ | ⟨a2, rfl, u2, c2, m2⟩
  · exact ⟨-1, S, by simp only [fX11_of, c1 S h1, c2, cal_s, if_neg hne]; rfl, by simp only [fX12_of, m1 S h2, m2, cal_s, if_neg hne]; rfl, Ch.rf _ _, rfl⟩
  obtain ⟨S', l1, l2, l3⟩ := Q_lay h F hF
  have i1 := ix_nI (show a1 < 30 by omega) (by decide)
  have hcl := cl (show a1 < 2147483648 by omega)
  have q5 := (h3 a1 u1).2.2.2.2.2.1
  have hy' : IvY S' ny n Y := hy.ch l2.ch (by decide)
  rcases hb_01 (nI (P 5 a1)) (nI a2) with hz | hz
  · have s1 := C_said hy h0 F a1 a2 (by omega) u2 F ny (Nat.le_refl _) (by have := hy.1; omega)
    have s2 := M_said hy' h0 F a1 a2 (by omega) u2 F 0 (by omega) (by have := hy.1; omega)
    have s2 : fX12_of_L41 F S' (nI a1) (nI a2) F 0 0 = some (nI (lastS (fun j => decide (Y 1 j = a1 ∧ Y 2 j = a2)) (Y 3) ny), S') := s2
    have s1 : fX7_isSaidToBe F S (nI a1) (nI a2) = some (nI (lastS (fun j => decide (Y 1 j = a1 ∧ Y 2 j = a2)) (Y 3) ny)) := by
      unfold fX7_isSaidToBe
      rw [hy.2.1]
      exact s1
    have hl : lastS (fun j => decide (Y 1 j = a1 ∧ Y 2 j = a2)) (Y 3) ny < 2 := lastS_lt (fun i hi => (hy.2.2.2 i hi).2.2.2.2.2.2.2.2.2.2.2)
    refine ⟨nI (lastS (fun j => decide (Y 1 j = a1 ∧ Y 2 j = a2)) (Y 3) ny), S', ?_, ?_, l2.ch, l2.2.2⟩
    · simp only [fX11_of, c1 S h1, c2, cal_s, if_neg hne, i1, gd_t, hcl, q5, hb_c, hz, if_true, s1]
      rcases (show lastS (fun j => decide (Y 1 j = a1 ∧ Y 2 j = a2)) (Y 3) ny = 0 ∨ lastS (fun j => decide (Y 1 j = a1 ∧ Y 2 j = a2)) (Y 3) ny = 1 by omega) with q | q <;> rw [q] <;> rfl
    · simp only [fX12_of, m1 S h2, m2, cal_s, if_neg hne, l1, i1, gd_t, hcl, l3 a1 u1, hb_m, hz, if_true, s2]
  · refine ⟨2, S', ?_, ?_, l2.ch, l2.2.2⟩
    · simp only [fX11_of, c1 S h1, c2, cal_s, if_neg hne, i1, gd_t, hcl, q5, hb_c, hz]
    · simp only [fX12_of, m1 S h2, m2, cal_s, if_neg hne, l1, i1, gd_t, hcl, l3 a1 u1, hb_m, hz]
