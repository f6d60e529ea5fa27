/-! SETTLED: counts of bits -/
def pc10 (s : Nat) : Nat := fb_ct (fun b => s.testBit b) 10
def bcF (p0 : Int32) : Int32 :=
  let x0_1 := p0 - ((p0.toUInt32 >>> ((1 : Int32).toUInt32 &&& Int32.toUInt32 31)).toInt32 &&& 1431655765)
  let x0_2 := (x0_1 &&& 858993459) + ((x0_1.toUInt32 >>> ((2 : Int32).toUInt32 &&& Int32.toUInt32 31)).toInt32 &&& 858993459)
  let x0_3 := (x0_2 + (x0_2.toUInt32 >>> ((4 : Int32).toUInt32 &&& Int32.toUInt32 31)).toInt32) &&& 252645135
  let x0_4 := x0_3 + (x0_3.toUInt32 >>> ((8 : Int32).toUInt32 &&& Int32.toUInt32 31)).toInt32
  let x0_5 := x0_4 + (x0_4.toUInt32 >>> ((16 : Int32).toUInt32 &&& Int32.toUInt32 31)).toInt32
  x0_5 &&& 63
theorem bc_s (S : St) (x : Int32) : fJ6_bitCount_0f7a4 S x = some (bcF x) := rfl
set_option maxRecDepth 100000 in
theorem bcF_all : ∀ s : Fin 1024, bcF (nI s.val) = nI (pc10 s.val) := by decide +kernel
theorem bc_n (S : St) {s : Nat} (h : s < 1024) : fJ6_bitCount_0f7a4 S (nI s) = some (nI (pc10 s)) := by rw [bc_s, bcF_all ⟨s, h⟩]
set_option maxRecDepth 100000 in
theorem kern_all : ∀ s : Fin 1024, s.val = 0 ∨ (pc10 (s.val &&& (s.val - 1)) + 1 = pc10 s.val ∧ s.val &&& (s.val - 1) < 1024) := by decide +kernel
theorem pc10_0 : pc10 0 = 0 := by decide
theorem bits_L (F : Nat) (S : St) : ∀ m c s, s < 1024 → pc10 s < m → fX12_bits_L4 F S m (nI c) (nI s) = some (nI (c + pc10 s)) := by
  intro m
  induction m with
  | zero => intro c s h1 h2; omega
  | succ m ih =>
    intro c s h1 h2
    simp only [fX12_bits_L4, fX12_bits_b4]
    by_cases e : s = 0
    · subst e
      rw [if_pos (show nI 0 = 0 from rfl), pc10_0]; rfl
    · have hs0 : ¬ nI s = 0 := c_ne (b := 0) e (by omega) (by decide)
      rw [if_neg hs0, bnd_e]
      rcases kern_all ⟨s, h1⟩ with q | ⟨q1, q2⟩
      · exact absurd q e
      · have e1 : nI s - 1 = nI (s - 1) := nI_subn (a := s) (b := 1) (by omega)
        rw [e1, fa_and, nI_a1, ih (c + 1) (s &&& (s - 1)) q2 (by simp only at q1; omega)]
        have : c + 1 + pc10 (s &&& (s - 1)) = c + pc10 s := by simp only at q1; omega
        rw [this]
theorem pc10_le (s : Nat) : pc10 s ≤ 10 := fb_ct_le _ 10
theorem bits_n (F : Nat) (S : St) (hF : 1000 ≤ F) {s : Nat} (h : s < 1024) : fX12_bits F S (nI s) = some (nI (pc10 s)) := by
  have := bits_L F S F 0 s h (by have := pc10_le s; omega)
  rw [Nat.zero_add] at this
  exact this
set_option maxRecDepth 100000 in
theorem co_all : ∀ s : Fin 1024, nI 1023 &&& (nI s.val ^^^ -1) = nI (1023 ^^^ s.val) := by decide +kernel
theorem and_assoc32 (a b c : Int32) : a &&& b &&& c = a &&& (b &&& c) := Int32.and_assoc a b c
theorem and_co {k s : Nat} (hk : k < 1024) (hs : s < 1024) : nI k &&& (nI s ^^^ -1) = nI (k &&& (1023 ^^^ s)) := by
  have e1 : nI k = nI k &&& nI 1023 := by
    rw [fa_and]
    congr 1
    exact (Nat.and_two_pow_sub_one_of_lt_two_pow (n := 10) hk).symm
  rw [e1, and_assoc32, co_all ⟨s, hs⟩, fa_and]
def cutC (K : Nat → Nat) (n s : Nat) : Nat := fb_sm (fun p => pc10 (K p &&& s) * pc10 (K p &&& (1023 ^^^ s))) n
theorem C_cut {S : St} {n s : Nat} {K : Nat → Nat} (F : Nat) (hn : n ≤ 30) (h1 : gI S 6 0 6 = nI n) (hk : ∀ j, j < n → gA S 39 0 j = nI (K j) ∧ K j < 1024) (hs : s < 1024) : ∀ m i, i ≤ n → n < i + m → fX7_cousinsCut_L4 F S (nI s) m (nI (cutC K i s)) (nI i) = some (nI (cutC K n s)) := by
  intro m
  induction m with
  | zero => intro i q1 q2; omega
  | succ m ih =>
    intro i q1 q2
    simp only [fX7_cousinsCut_L4, fX7_cousinsCut_b4, h1]
    by_cases e : i = n
    · subst e; rw [if_pos (c_le (Nat.le_refl _) (by omega))]
    · rw [if_neg (c_nle (show i < n by omega) (by omega))]
      obtain ⟨k1, k2⟩ := hk i (by omega)
      have l1 : K i &&& s < 1024 := Nat.lt_of_le_of_lt Nat.and_le_left k2
      have l2 : K i &&& (1023 ^^^ s) < 1024 := Nat.lt_of_le_of_lt Nat.and_le_left k2
      simp only [ix_nI (show i < 30 by omega) (by decide), gd_t, cl (show i < 2147483648 by omega), k1, fa_and, and_co k2 hs, bc_n S l1, bc_n S l2, cal_s, bnd_e, pk_mul, nI_add, nI_a1]
      exact ih (i + 1) (by omega) (by omega)
theorem Q_cut {S : St} {n s : Nat} {K : Nat → Nat} (F : Nat) (hF : 1000 ≤ F) (hn : n ≤ 30) (h1 : gI S 6 0 6 = nI n) (hk : ∀ j, j < n → gA S 39 0 j = nI (K j) ∧ K j < 1024) (hs : s < 1024) : fX7_cousinsCut F S (nI s) = some (nI (cutC K n s)) := C_cut F hn h1 hk hs F 0 (by omega) (by omega)
/-! sums -/
theorem sm_mul (f : Nat → Nat) (c : Nat) : ∀ n, fb_sm f n * c = fb_sm (fun k => f k * c) n
  | 0 => by simp [fb_sm]
  | n + 1 => by rw [fb_sm_succ, fb_sm_succ, Nat.add_mul, sm_mul f c n]
theorem sm_lmul (f : Nat → Nat) (c : Nat) : ∀ n, c * fb_sm f n = fb_sm (fun k => c * f k) n
  | 0 => by simp [fb_sm]
  | n + 1 => by rw [fb_sm_succ, fb_sm_succ, Nat.mul_add, sm_lmul f c n]
theorem sm_swap (g : Nat → Nat → Nat) (m : Nat) : ∀ n, fb_sm (fun p => fb_sm (fun a => g p a) m) n = fb_sm (fun a => fb_sm (fun p => g p a) n) m
  | 0 => by
    have : ∀ k, fb_sm (fun a => fb_sm (fun p => g p a) 0) k = 0 := by
      intro k
      induction k with
      | zero => rfl
      | succ k ih => rw [fb_sm_succ, ih]; rfl
    rw [this]; rfl
  | n + 1 => by
    rw [fb_sm_succ, sm_swap g m n, ← fb_sm_add]
    exact fb_sm_cong (fun k _ => by rw [fb_sm_succ])
theorem ct_sm (p : Nat → Bool) : ∀ n, fb_ct p n = fb_sm (fun k => if p k then 1 else 0) n
  | 0 => rfl
  | n + 1 => by rw [fb_ct_succ, fb_sm_succ, ct_sm p n]
def cutM (K : Nat → Nat) (n s : Nat) : Nat := fb_sm (fun a => fb_sm (fun b => if s.testBit a = true ∧ s.testBit b = false then fb_ct (bothK K a b) n else 0) 10) 10
theorem co_bit {s b : Nat} (hb : b < 10) : (1023 ^^^ s).testBit b = !s.testBit b := by
  rw [Nat.testBit_xor, show (1023 : Nat) = 2 ^ 10 - 1 from rfl, Nat.testBit_two_pow_sub_one]
  simp [hb]
theorem cut_eq (K : Nat → Nat) (n s : Nat) : cutC K n s = cutM K n s := by
  unfold cutC cutM
  have h1 : ∀ p, pc10 (K p &&& s) * pc10 (K p &&& (1023 ^^^ s)) = fb_sm (fun a => fb_sm (fun b => if (s.testBit a = true ∧ s.testBit b = false) ∧ bothK K a b p = true then 1 else 0) 10) 10 := by
    intro p
    unfold pc10
    rw [ct_sm, ct_sm, sm_mul]
    refine fb_sm_cong (fun a ha => ?_)
    rw [sm_lmul]
    refine fb_sm_cong (fun b hb => ?_)
    rw [Nat.testBit_and, Nat.testBit_and, co_bit hb]
    unfold bothK
    cases (K p).testBit a <;> cases (K p).testBit b <;> cases s.testBit a <;> cases s.testBit b <;> rfl
  rw [fb_sm_cong (fun p _ => h1 p), sm_swap]
  refine fb_sm_cong (fun a _ => ?_)
  rw [sm_swap]
  refine fb_sm_cong (fun b _ => ?_)
  by_cases e : s.testBit a = true ∧ s.testBit b = false
  · rw [if_pos e, ct_sm]
    refine fb_sm_cong (fun p _ => ?_)
    by_cases e2 : bothK K a b p = true
    · rw [if_pos ⟨e, e2⟩, if_pos e2]
    · rw [if_neg (fun q => e2 q.2), if_neg e2]
  · rw [if_neg e]
    have : ∀ k, fb_sm (fun p => if (s.testBit a = true ∧ s.testBit b = false) ∧ bothK K a b p = true then 1 else 0) k = 0 := by
      intro k
      induction k with
      | zero => rfl
      | succ k ih => rw [fb_sm_succ, ih, if_neg (fun q => e q.1)]
    exact this n
/-! the reference's pairs -/
def Off80 (S S' : St) : Prop := (∀ c n j, c ≠ 80 → gA S' c n j = gA S c n j) ∧ gI S' = gI S ∧ gC S' = gC S
theorem Off80.rf (S : St) : Off80 S S := ⟨fun _ _ _ _ => rfl, rfl, rfl⟩
theorem Off80.ch {S S' : St} (h : Off80 S S') : Ch 99 S S' := ⟨fun c n j _ _ => by rw [h.2.1], fun c n j a b => h.1 c n j (fun q => a (by rw [q]; rfl))⟩
theorem Off80.trans {S S1 S2 : St} (h : Off80 S S1) (h2 : Off80 S1 S2) : Off80 S S2 := ⟨fun c n j k => (h2.1 c n j k).trans (h.1 c n j k), h2.2.1.trans h.2.1, h2.2.2.trans h.2.2⟩
theorem M_pair1 {n a : Nat} {K : Nat → Nat} (F : Nat) (hF : 1000 ≤ F) (hn : n ≤ 30) (hK : ∀ j, j < n → K j < 1024) (ha : a < 10) (x1 x2 x3 : Int32) (k : St → Option (Int32 × St)) : ∀ m b (S : St), b ≤ 10 → 10 < b + m → gI S 11 0 6 = nI n → (∀ j, j < n → gA S 75 0 j = nI (K j)) → ∃ S', fX12_settled_L48 F x1 x2 x3 (nI a) k m (nI b) S = k S' ∧ Off80 S S' ∧ (∀ j, j < 10 → b ≤ j → gA S' 80 0 (10 * a + j) = nI (fb_ct (bothK K a j) n)) ∧ ∀ i, (i < 10 * a + b ∨ 10 * a + 10 ≤ i) → gA S' 80 0 i = gA S 80 0 i := by
  intro m
  induction m with
  | zero => intro b S q1 q2; omega
  | succ m ih =>
    intro b S q1 q2 h1 h2
    simp only [fX12_settled_L48, fX12_settled_b48]
    by_cases e : b = 10
    · subst e
      exact ⟨S, by rw [if_pos (show (10 : Int32) ≤ nI 10 by decide)], Off80.rf S, fun j h3 h4 => by omega, fun _ _ => rfl⟩
    · have hle : ¬ (10 : Int32) ≤ nI b := c_nle (a := 10) (by omega) (by decide)
      have r := Q_cousinsOf (S := S) (n := n) (K := K) (a := a) (b := b) F hF hn h1 (fun j hj => ⟨h2 j hj, hK j hj⟩) ha (by omega)
      have e1 : (10 : Int32) * nI a + nI b = nI (10 * a + b) := by rw [show (10 : Int32) * nI a = nI (10 * a) from pk_mul 10 a, nI_add]
      simp only [if_neg hle, r, cal_s, e1, ix_nI (show 10 * a + b < 100 by omega) (by decide), gd_t, bnd_e, cl (show 10 * a + b < 2147483648 by omega), nI_a1]
      obtain ⟨S1, es⟩ : ∃ S1 : St, S1 = pA S 80 0 (10 * a + b) (nI (fb_ct (bothK K a b) n)) := ⟨_, rfl⟩
      rw [← es]
      obtain ⟨S', r1, r2, r3, r4⟩ := ih (b + 1) S1 (by omega) (by omega) (by rw [es]; exact h1) (fun j hj => by rw [es]; simp (disch := omega) only [gA_ps, gA_pe, gA_pc, gA_pi, gA_pn, gI_ps, gI_pc, gI_pk, gI_pn, gB_ps, gB_pc, gB_pi, gJ_ps, gJ_pc, gA_pI, gA_pB, gA_pJ, gI_pA, gI_pB, gI_pJ, gB_pI, gB_pA, gB_pJ, gJ_pI, gJ_pA, gJ_pB]; exact h2 j hj)
      refine ⟨S', r1, Off80.trans ⟨fun c nn j k => by rw [es, gA_pc _ _ _ _ _ _ k], by rw [es]; rfl, by rw [es]; rfl⟩ r2, fun j h3 h4 => ?_, fun i hi => ?_⟩
      · by_cases ej : j = b
        · subst ej
          rw [r4 (10 * a + j) (by omega), es]
          simp (disch := omega) only [gA_ps, gA_pe, gA_pc, gA_pi, gA_pn, gI_ps, gI_pc, gI_pk, gI_pn, gB_ps, gB_pc, gB_pi, gJ_ps, gJ_pc, gA_pI, gA_pB, gA_pJ, gI_pA, gI_pB, gI_pJ, gB_pI, gB_pA, gB_pJ, gJ_pI, gJ_pA, gJ_pB]
        · exact r3 j h3 (by omega)
      · rw [r4 i (by omega), es]
        simp (disch := omega) only [gA_ps, gA_pe, gA_pc, gA_pi, gA_pn, gI_ps, gI_pc, gI_pk, gI_pn, gB_ps, gB_pc, gB_pi, gJ_ps, gJ_pc, gA_pI, gA_pB, gA_pJ, gI_pA, gI_pB, gI_pJ, gB_pI, gB_pA, gB_pJ, gJ_pI, gJ_pA, gJ_pB]
theorem M_pairs {n : Nat} {K : Nat → Nat} (F : Nat) (hF : 1000 ≤ F) (hn : n ≤ 30) (hK : ∀ j, j < n → K j < 1024) (x1 x2 x3 : Int32) (k : St → Option (Int32 × St)) : ∀ m a (S : St), a ≤ 10 → 10 < a + m → gI S 11 0 6 = nI n → (∀ j, j < n → gA S 75 0 j = nI (K j)) → (∀ i j, i < a → j < 10 → gA S 80 0 (10 * i + j) = nI (fb_ct (bothK K i j) n)) → ∃ S', fX12_settled_L38 F x1 x2 x3 k m (nI a) S = k S' ∧ Off80 S S' ∧ ∀ i j, i < 10 → j < 10 → gA S' 80 0 (10 * i + j) = nI (fb_ct (bothK K i j) n) := by
  intro m
  induction m with
  | zero => intro b S q1 q2; omega
  | succ m ih =>
    intro a S q1 q2 h1 h2 h3
    simp only [fX12_settled_L38, fX12_settled_b38]
    by_cases e : a = 10
    · subst e
      exact ⟨S, by rw [if_pos (show (10 : Int32) ≤ nI 10 by decide)], Off80.rf S, h3⟩
    · have hle : ¬ (10 : Int32) ≤ nI a := c_nle (a := 10) (by omega) (by decide)
      rw [if_neg hle]
      obtain ⟨S1, r1, r2, r3, r4⟩ := M_pair1 F hF hn hK (show a < 10 by omega) x1 x2 x3 (fun S_7 => fX12_settled_L38 F x1 x2 x3 k m (nI a + 1) S_7) F 0 S (by omega) (by omega) h1 h2
      have r1 : fX12_settled_L48 F x1 x2 x3 (nI a) (fun S_7 => fX12_settled_L38 F x1 x2 x3 k m (nI a + 1) S_7) F 0 S = fX12_settled_L38 F x1 x2 x3 k m (nI a + 1) S1 := r1
      rw [r1, nI_a1]
      obtain ⟨S', t1, t2, t3⟩ := ih (a + 1) S1 (by omega) (by omega) (by rw [r2.2.1]; exact h1) (fun j hj => by rw [r2.1 75 0 j (by decide)]; exact h2 j hj) (fun i j hi hj => by
        by_cases ei : i = a
        · subst ei; exact r3 j hj (by omega)
        · rw [r4 (10 * i + j) (by omega)]; exact h3 i j (by omega) hj)
      exact ⟨S', t1, r2.trans t2, t3⟩
def inner (K : Nat → Nat) (n s a : Nat) : Nat → Nat := fb_sm (fun b => if s.testBit a = true ∧ s.testBit b = false then fb_ct (bothK K a b) n else 0)
theorem M_cut1 {S : St} {n s a : Nat} {K : Nat → Nat} (F : Nat) (hs : s < 1024) (ha : a < 10) (hp : ∀ i j, i < 10 → j < 10 → gA S 80 0 (10 * i + j) = nI (fb_ct (bothK K i j) n)) (x1 x2 x3 x4 x5 : Int32) (k : Int32 → Option (Int32 × St)) (c0 : Nat) : ∀ m b, b ≤ 10 → 10 < b + m → fX12_settled_L140 F S x1 x2 x3 x4 x5 (nI s) (nI a) k m (nI (c0 + inner K n s a b)) (nI b) = k (nI (c0 + inner K n s a 10)) := by
  intro m
  induction m with
  | zero => intro b q1 q2; omega
  | succ m ih =>
    intro b q1 q2
    simp only [fX12_settled_L140, fX12_settled_b140]
    by_cases e : b = 10
    · subst e; rw [if_pos (show (10 : Int32) ≤ nI 10 by decide)]
    · have hle : ¬ (10 : Int32) ≤ nI b := c_nle (a := 10) (by omega) (by decide)
      have e1 : (10 : Int32) * nI a + nI b = nI (10 * a + b) := by rw [show (10 : Int32) * nI a = nI (10 * a) from pk_mul 10 a, nI_add]
      have ihh := ih (b + 1) (by omega) (by omega)
      rw [← ihh]
      have hsucc : inner K n s a (b + 1) = inner K n s a b + (if s.testBit a = true ∧ s.testBit b = false then fb_ct (bothK K a b) n else 0) := fb_sm_succ _ _
      have hz10 : ¬ (1 : Int32) = 0 := by decide
      simp only [if_neg hle, hb_m, hb_nI (show s < 2147483648 by omega) (show a < 31 by omega), hb_nI (show s < 2147483648 by omega) (show b < 31 by omega), cal_s, fX12_settled_j185, bnd_e, Int32.add_zero, e1, ix_nI (show 10 * a + b < 100 by omega) (by decide), gd_t, cl (show 10 * a + b < 2147483648 by omega), hp a b ha (by omega), nI_add, nI_a1, hsucc]
      by_cases ea : s.testBit a = true
      · simp only [ea, if_true, if_neg hz10, true_and]
        by_cases eb : s.testBit b = true
        · simp only [eb, if_true, if_neg hz10, Bool.true_eq_false, if_false, Nat.add_zero]
        · have eb2 : s.testBit b = false := by simpa using eb
          simp only [eb2, Bool.false_eq_true, if_false, if_true, Nat.add_assoc]
      · have ea2 : s.testBit a = false := by simpa using ea
        simp only [ea2, Bool.false_eq_true, if_false, if_true, false_and, Nat.add_zero]
def outer (K : Nat → Nat) (n s : Nat) : Nat → Nat := fb_sm (fun a => inner K n s a 10)
theorem M_cut {S : St} {n s : Nat} {K : Nat → Nat} (F : Nat) (hF : 1000 ≤ F) (hs : s < 1024) (hp : ∀ i j, i < 10 → j < 10 → gA S 80 0 (10 * i + j) = nI (fb_ct (bothK K i j) n)) (x1 x2 x3 x4 x5 : Int32) (k : Int32 → Option (Int32 × St)) : ∀ m a, a ≤ 10 → 10 < a + m → fX12_settled_L130 F S x1 x2 x3 x4 x5 (nI s) k m (nI (outer K n s a)) (nI a) = k (nI (cutM K n s)) := by
  intro m
  induction m with
  | zero => intro b q1 q2; omega
  | succ m ih =>
    intro a q1 q2
    simp only [fX12_settled_L130, fX12_settled_b130]
    by_cases e : a = 10
    · subst e; rw [if_pos (show (10 : Int32) ≤ nI 10 by decide)]; rfl
    · have hle : ¬ (10 : Int32) ≤ nI a := c_nle (a := 10) (by omega) (by decide)
      rw [if_neg hle]
      have r := M_cut1 (S := S) (n := n) (s := s) (a := a) (K := K) F hs (by omega) hp x1 x2 x3 x4 x5 (fun x7_15 => fX12_settled_L130 F S x1 x2 x3 x4 x5 (nI s) k m x7_15 (nI a + 1)) (outer K n s a) F 0 (by omega) (by omega)
      have r : fX12_settled_L140 F S x1 x2 x3 x4 x5 (nI s) (nI a) (fun x7_15 => fX12_settled_L130 F S x1 x2 x3 x4 x5 (nI s) k m x7_15 (nI a + 1)) F (nI (outer K n s a)) 0 = fX12_settled_L130 F S x1 x2 x3 x4 x5 (nI s) k m (nI (outer K n s a + inner K n s a 10)) (nI a + 1) := r
      rw [r, nI_a1, show outer K n s a + inner K n s a 10 = outer K n s (a + 1) from (fb_sm_succ (fun a => inner K n s a 10) a).symm]
      exact ih (a + 1) (by omega) (by omega)
theorem cut_le (K : Nat → Nat) (s : Nat) : ∀ n, cutC K n s ≤ n * 100 := fun n => fb_sm_bound (fun k _ => Nat.mul_le_mul (pc10_le _) (pc10_le _))
/-- the sets asked for -/
def okK (kin k s : Nat) : Prop := s.testBit kin = true ∧ pc10 s = k
set_option maxRecDepth 100000 in
theorem some_ok : ∀ kin : Fin 10, ∀ k : Fin 9, okK kin.val (k.val + 1) ((2 ^ (k.val + 1) - 1) ||| 2 ^ kin.val) ∨ okK kin.val (k.val + 1) ((2 ^ k.val - 1) ||| 2 ^ kin.val) := by
  unfold okK
  decide +kernel
theorem L_settled {S T : St} {n kin k : Nat} {K : Nat → Nat} (F : Nat) (hF : 1000 ≤ F) (hn : n ≤ 30) (h1 : gI S 6 0 6 = nI n) (hk : ∀ j, j < n → gA S 39 0 j = nI (K j) ∧ K j < 1024) (hp : ∀ i j, i < 10 → j < 10 → gA T 80 0 (10 * i + j) = nI (fb_ct (bothK K i j) n)) (hkin : kin < 10) (hkk : k ≤ 9) (p3 : Int32) (kc : Int32 → Int32 → Option Int32) (km : Int32 → Int32 → Option (Int32 × St)) : ∀ m i (x4 x5 y4 y5 : Int32), i ≤ 1024 → 1024 < i + m → ((x4 = 0 ∧ x5 = 1000000000 ∧ y4 = -4 ∧ y5 = 0 ∧ ∀ s, s < i → ¬ okK kin k s) ∨ (∃ b c : Nat, b < 1024 ∧ c ≤ 3000 ∧ x4 = nI b ∧ y4 = nI b ∧ x5 = nI c ∧ y5 = nI c)) → (∃ x5' y5' : Int32, (∀ s, s < 1024 → ¬ okK kin k s) ∧ fX11_settled_L39 F S (nI kin) (nI k) p3 kc m x4 x5 (nI i) = kc 0 x5' ∧ fX12_settled_L98 F T (nI kin) (nI k) p3 km m y4 y5 (nI i) = km (-4) y5') ∨ ∃ b c : Nat, fX11_settled_L39 F S (nI kin) (nI k) p3 kc m x4 x5 (nI i) = kc (nI b) (nI c) ∧ fX12_settled_L98 F T (nI kin) (nI k) p3 km m y4 y5 (nI i) = km (nI b) (nI c) := by
  intro m
  induction m with
  | zero => intro i x4 x5 y4 y5 q1 q2; omega
  | succ m ih =>
    intro i x4 x5 y4 y5 q1 q2 hr
    simp only [fX11_settled_L39, fX12_settled_L98, fX11_settled_b39, fX12_settled_b98]
    by_cases e : i = 1024
    · subst e
      rw [if_pos (show (1024 : Int32) ≤ nI 1024 by decide), if_pos (show (1024 : Int32) ≤ nI 1024 by decide)]
      rcases hr with ⟨r1, r2, r3, r4, r5⟩ | ⟨b, c, r1, r2, r3, r4, r5, r6⟩
      · left; exact ⟨x5, y5, r5, by rw [r1], by rw [r3]⟩
      · right; exact ⟨b, c, by rw [r3, r5], by rw [r4, r6]⟩
    · have hle : ¬ (1024 : Int32) ≤ nI i := c_nle (a := 1024) (by omega) (by decide)
      have hz10 : ¬ (1 : Int32) = 0 := by decide
      have hcut := Q_cut (S := S) (n := n) (s := i) (K := K) F hF hn h1 hk (by omega)
      have hcm := fun kk => M_cut (S := T) (n := n) (s := i) (K := K) F hF (by omega) hp (nI kin) (nI k) p3 y4 y5 kk F 0 (by omega) (by omega)
      have hcm : ∀ kk : Int32 → Option (Int32 × St), fX12_settled_L130 F T (nI kin) (nI k) p3 y4 y5 (nI i) kk F 0 0 = kk (nI (cutM K n i)) := hcm
      have hcl := cut_le K i n
      simp only [if_neg hle, hb_c, hb_m, hb_nI (show i < 2147483648 by omega) (show kin < 31 by omega), cal_s, bc_n S (show i < 1024 by omega), bits_n F T hF (show i < 1024 by omega), hcut, hcm, ← cut_eq, nI_a1, fX12_settled_j215]
      by_cases eb : i.testBit kin = true
      · simp only [eb, if_true, if_neg hz10]
        by_cases ep : pc10 i = k
        · have ep2 : nI (pc10 i) = nI k := by rw [ep]
          simp only [if_pos ep2]
          rcases hr with ⟨r1, r2, r3, r4, r5⟩ | ⟨b, c, r1, r2, r3, r4, r5, r6⟩
          · have hx : ¬ x5 ≤ nI (cutC K n i) := by rw [r2]; exact c_nle (a := 1000000000) (by omega) (by decide)
            rw [if_neg hx, if_pos r3]
            exact ih (i + 1) _ _ _ _ (by omega) (by omega) (Or.inr ⟨i, cutC K n i, by omega, by omega, rfl, rfl, rfl, rfl⟩)
          · have hy : ¬ y4 = -4 := by
              rw [r4]; intro q
              have := (t_eq _ _).mp q
              rw [t_nI (by omega), show (-4 : Int32).toInt = -4 by decide] at this
              omega
            rw [if_neg hy]
            by_cases ec : c ≤ cutC K n i
            · rw [r5, r6, if_pos (c_le ec (by omega)), if_pos (c_le ec (by omega))]
              exact ih (i + 1) _ _ _ _ (by omega) (by omega) (Or.inr ⟨b, c, r1, r2, r3, r4, rfl, rfl⟩)
            · rw [r5, r6, if_neg (c_nle (by omega) (by omega)), if_neg (c_nle (by omega) (by omega))]
              exact ih (i + 1) _ _ _ _ (by omega) (by omega) (Or.inr ⟨i, cutC K n i, by omega, by omega, rfl, rfl, rfl, rfl⟩)
        · have ep2 : ¬ nI (pc10 i) = nI k := c_ne ep (by have := pc10_le i; omega) (by omega)
          simp only [if_neg ep2]
          refine ih (i + 1) _ _ _ _ (by omega) (by omega) ?_
          rcases hr with ⟨r1, r2, r3, r4, r5⟩ | r
          · refine Or.inl ⟨r1, r2, r3, r4, fun s hs => ?_⟩
            by_cases es : s = i
            · rw [es]; exact fun q => ep q.2
            · exact r5 s (by omega)
          · exact Or.inr r
      · have eb2 : i.testBit kin = false := by simpa using eb
        simp only [eb2, Bool.false_eq_true, if_false, if_true]
        refine ih (i + 1) _ _ _ _ (by omega) (by omega) ?_
        rcases hr with ⟨r1, r2, r3, r4, r5⟩ | r
        · refine Or.inl ⟨r1, r2, r3, r4, fun s hs => ?_⟩
          by_cases es : s = i
          · rw [es]; exact fun q => eb q.1
          · exact r5 s (by omega)
        · exact Or.inr r
theorem Q_settled {S : St} {n : Nat} {P : Nat → Nat → Nat} (h : IvP S n P) (F : Nat) (hF : 2000 ≤ F) (p1 p2 p3 : Int32) : ∃ (r : Int32) (S2 : St), fX11_settled F S p1 p2 p3 = some r ∧ fX12_settled F S p1 p2 p3 = some (r, S2) ∧ Ch 99 S S2 ∧ gC S2 = gC S := by
  have hne : ¬ (1 : Int32) = 0 := by decide
  obtain ⟨h0, h1, h2, h3⟩ := id h
  rcases a_kin p1 with ⟨c1, m1⟩ | ⟨a1, rfl, u1, c1, m1⟩
  · exact ⟨-1, S, by simp only [fX11_settled, c1, cal_s]; rfl, by simp only [fX12_settled, m1, cal_s]; rfl, Ch.rf _ _, rfl⟩
  rcases ar_n p2 1 9 (by decide) 1 9 1 9 (by decide) (by decide) (by decide) (by decide) with ⟨c2, m2⟩ | ⟨a2, rfl, l2', u2, c2, m2⟩
  · exact ⟨-1, S, by simp only [fX11_settled, c1, c2, cal_s, if_neg hne]; rfl, by simp only [fX12_settled, m1, m2, cal_s, if_neg hne]; rfl, Ch.rf _ _, rfl⟩
  rcases ar_n p3 0 1 (by decide) 0 1 0 1 (by decide) (by decide) (by decide) (by decide) with ⟨c3, m3⟩ | ⟨a3, rfl, -, u3, c3, m3⟩
  · exact ⟨-1, S, by simp only [fX11_settled, c1, c2, c3, cal_s, if_neg hne]; rfl, by simp only [fX12_settled, m1, m2, m3, cal_s, if_neg hne]; rfl, Ch.rf _ _, rfl⟩
  obtain ⟨S', l1, l2, l3⟩ := Q_lay h F (by omega)
  have hk5 : ∀ j, j < n → P 5 j < 1024 := fun j hj => (h3 j hj).2.2.2.2.2.2.2.2.2.2.2.2.2.2.2.2.1
  obtain ⟨T, t1, t2, t3⟩ := M_pairs (n := n) (K := P 5) F (by omega) h0 hk5 (nI a1) (nI a2) (nI a3) (fun S_8 => fX12_settled_L98 F S_8 (nI a1) (nI a2) (nI a3) (fun x4_17 x5_18 => if nI a3 = 0 then some (x4_17, S_8) else some (x5_18, S_8)) F (-4) 0 0) F 0 S' (by omega) (by omega) (by rw [l2.2.1]; exact h2) l3 (fun i j hi => by omega)
  have t1 : fX12_settled_L38 F (nI a1) (nI a2) (nI a3) (fun S_8 => fX12_settled_L98 F S_8 (nI a1) (nI a2) (nI a3) (fun x4_17 x5_18 => if nI a3 = 0 then some (x4_17, S_8) else some (x5_18, S_8)) F (-4) 0 0) F 0 S' = fX12_settled_L98 F T (nI a1) (nI a2) (nI a3) (fun x4_17 x5_18 => if nI a3 = 0 then some (x4_17, T) else some (x5_18, T)) F (-4) 0 0 := t1
  have hch : Ch 99 S T := l2.ch.trans t2.ch
  have main := L_settled (S := S) (T := T) (n := n) (kin := a1) (k := a2) (K := P 5) F (by omega) h0 h1 (fun j hj => ⟨(h3 j hj).2.2.2.2.2.1, hk5 j hj⟩) t3 u1 u2 (nI a3) (fun x4_7 x5_8 => if nI a3 = 0 then some x4_7 else some x5_8) (fun x4_17 x5_18 => if nI a3 = 0 then some (x4_17, T) else some (x5_18, T)) F 0 0 1000000000 (-4) 0 (by omega) (by omega) (Or.inl ⟨rfl, rfl, rfl, rfl, fun s hs => by omega⟩)
  rcases main with ⟨_, _, no, -⟩ | ⟨b, c, r1, r2⟩
  · exfalso
    have hk1 : a2 - 1 < 9 := by omega
    have hpow : ∀ j, j ≤ 10 → ∀ i, i < 10 → (2 ^ j - 1) ||| 2 ^ i < 1024 := by
      intro j hj i hi
      refine Nat.or_lt_two_pow (n := 10) ?_ (Nat.pow_lt_pow_right (by decide) hi)
      have : 2 ^ j ≤ 2 ^ 10 := Nat.pow_le_pow_right (by decide) hj
      have h0 : 0 < 2 ^ j := Nat.two_pow_pos j
      omega
    rcases some_ok ⟨a1, u1⟩ ⟨a2 - 1, hk1⟩ with q | q
    · simp only [show a2 - 1 + 1 = a2 by omega] at q
      exact no _ (hpow a2 (by omega) a1 u1) q
    · simp only [show a2 - 1 + 1 = a2 by omega] at q
      exact no _ (hpow (a2 - 1) (by omega) a1 u1) q
  · have r1 : fX11_settled_L39 F S (nI a1) (nI a2) (nI a3) (fun x4_7 x5_8 => if nI a3 = 0 then some x4_7 else some x5_8) F 0 1000000000 0 = if nI a3 = 0 then some (nI b) else some (nI c) := r1
    have r2 : fX12_settled_L98 F T (nI a1) (nI a2) (nI a3) (fun x4_17 x5_18 => if nI a3 = 0 then some (x4_17, T) else some (x5_18, T)) F (-4) 0 0 = if nI a3 = 0 then some (nI b, T) else some (nI c, T) := r2
    by_cases ea : nI a3 = 0
    · refine ⟨nI b, T, ?_, ?_, hch, t2.2.2.trans l2.2.2⟩
      · simp only [fX11_settled, c1, c2, c3, cal_s, if_neg hne]; rw [r1, if_pos ea]
      · simp only [fX12_settled, m1, m2, m3, cal_s, if_neg hne, l1]; rw [t1, r2, if_pos ea]
    · refine ⟨nI c, T, ?_, ?_, hch, t2.2.2.trans l2.2.2⟩
      · simp only [fX11_settled, c1, c2, c3, cal_s, if_neg hne]; rw [r1, if_neg ea]
      · simp only [fX12_settled, m1, m2, m3, cal_s, if_neg hne, l1]; rw [t1, r2, if_neg ea]
