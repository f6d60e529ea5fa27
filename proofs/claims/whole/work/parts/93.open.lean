/-! SHARES ARE TOLD -/
def lf (P : Nat → Nat → Nat) (kn Y i : Nat) : Bool := (P 4 i).testBit kn && (decide (P 0 i ≤ Y) && decide (Y < P 1 i))
def hds (P : Nat → Nat → Nat) (n kn Y : Nat) : Nat := fb_ct (lf P kn Y) n
def bgn (P : Nat → Nat → Nat) (n kn Y : Nat) : (Nat → Nat) × Nat := (fun x => if lf P kn Y x = true then W12 / hds P n kn Y else 0, W12 - hds P n kn Y * (W12 / hds P n kn Y))
theorem hds_le {P : Nat → Nat → Nat} {n kn Y : Nat} : hds P n kn Y ≤ n := fb_ct_le _ n
theorem bgn_tot {P : Nat → Nat → Nat} {n kn Y : Nat} : tot n (bgn P n kn Y) = W12 := by
  unfold tot bgn
  simp only
  rw [sm_ct]
  have : hds P n kn Y * (W12 / hds P n kn Y) ≤ W12 := Nat.mul_div_le _ _
  have e : fb_ct (lf P kn Y) n = hds P n kn Y := rfl
  rw [e]; omega
theorem C_lf {S : St} {n : Nat} {P : Nat → Nat → Nat} (h : IvP S n P) {i kn Y : Nat} (hi : i < n) (hk : kn < 10) (hY : Y ≤ 200) : fX7_isLivingFounder S (nI i) (nI kn) (nI Y) = some (if lf P kn Y i = true then 1 else 0) := by
  have hn := h.1
  have hx := P1_lt h hi
  obtain ⟨p0, p1, p2, p3, p4, p5, p6, p7, p8, p9, p10, x0, x1, x2, x3, x4, x5, x6⟩ := h.2.2.2 i hi
  unfold fX7_isLivingFounder fX7_isFounder fX7_isDead
  rw [ix_nI (show i < 30 by omega) (by decide), gd_t, gd_t, gd_t, cl (show i < 2147483648 by omega), p4, p0, p1, hb_c, cal_s, isB_hb, gd_t, cal_s, hb_nI (by omega) (by omega)]
  unfold lf
  by_cases a : (P 4 i).testBit kn = true
  · rw [if_pos a, if_neg (by decide)]
    by_cases b : P 0 i ≤ Y
    · rw [if_neg (c_nlt b (by omega))]
      by_cases c : Y < P 1 i
      · rw [if_pos (c_lt c (by omega)), cal_s, if_pos rfl, if_pos (by simp [a, b, c])]
      · rw [if_neg (c_nlt (by omega) (by omega)), cal_s, if_neg (by decide), if_neg (by simp [c])]
    · rw [if_pos (c_lt (by omega) (by omega)), if_neg (by simp [b])]
  · rw [if_neg a, if_pos rfl, if_neg (by simp [a])]
theorem M_lf {S : St} {n : Nat} {P : Nat → Nat → Nat} (h : IvP S n P) {i kn Y : Nat} (hi : i < n) (hk : kn < 10) (hY : Y ≤ 200) : fX12_isHeir S (nI i) (nI kn) (nI Y) = some (if lf P kn Y i = true then 1 else 0) := by
  have hn := h.1
  have hx := P1_lt h hi
  obtain ⟨p0, p1, p2, p3, p4, p5, p6, p7, p8, p9, p10, x0, x1, x2, x3, x4, x5, x6⟩ := h.2.2.2 i hi
  unfold fX12_isHeir
  rw [ix_nI (show i < 30 by omega) (by decide), gd_t, gd_t, gd_t, cl (show i < 2147483648 by omega), p10, p6, p7, hb_m, cal_s, hb_nI (by omega) (by omega)]
  unfold lf
  by_cases a : (P 4 i).testBit kn = true
  · rw [if_pos a, if_neg (by decide)]
    by_cases b : P 0 i ≤ Y
    · rw [if_neg (c_nlt b (by omega))]
      by_cases c : Y < P 1 i
      · rw [if_neg (c_nle c (by omega)), if_pos (by simp [a, b, c])]
      · rw [if_pos (c_le (by omega) (by omega)), if_neg (by simp [c])]
    · rw [if_pos (c_lt (by omega) (by omega)), if_neg (by simp [b])]
  · rw [if_neg a, if_pos rfl, if_neg (by simp [a])]
theorem C_heads {S : St} {n : Nat} {P : Nat → Nat → Nat} (h : IvP S n P) (F : Nat) {kn Y : Nat} (hk : kn < 10) (hY : Y ≤ 200) : ∀ m i, i ≤ n → n < i + m → fX7_livingFounders_L5 F S (nI kn) (nI Y) m (nI (fb_ct (lf P kn Y) i)) (nI i) = some (nI (hds P n kn Y)) := by
  have hn := h.1
  intro m
  induction m with
  | zero => intro i q1 q2; omega
  | succ m ih =>
    intro i q1 q2
    simp only [fX7_livingFounders_L5, fX7_livingFounders_b5, h.2.1]
    by_cases e : i = n
    · subst e; rw [if_pos (c_le (Nat.le_refl _) (by omega))]; rfl
    · rw [if_neg (c_nle (show i < n by omega) (by omega)), C_lf h (show i < n by omega) hk hY, cal_s, nI_a1, nI_a1]
      have ihh := ih (i + 1) (by omega) (by omega)
      rw [fb_ct_succ] at ihh
      by_cases q : lf P kn Y i = true
      · rw [if_pos q, if_neg (by decide)]
        rw [if_pos q] at ihh; exact ihh
      · rw [if_neg q, if_pos rfl]
        rw [if_neg q] at ihh; exact ihh
theorem C_hds {S : St} {n : Nat} {P : Nat → Nat → Nat} (h : IvP S n P) (F : Nat) (hF : 1000 ≤ F) {kn Y : Nat} (hk : kn < 10) (hY : Y ≤ 200) : fX7_livingFounders F S (nI kn) (nI Y) = some (nI (hds P n kn Y)) := C_heads h F hk hY F 0 (by omega) (by have := h.1; omega)
theorem C_fill (F : Nat) : ∀ m i (S : St), i ≤ 30 → 30 < i + m → (∀ x, x < i → gB S 18 0 x = 0) → ∃ S', fJ7_fill_d0a16_L6 F 0 (nI 30) m (nI i) S = some S' ∧ Ch 99 S S' ∧ gC S' = gC S ∧ gI S' = gI S ∧ ∀ x, x < 30 → gB S' 18 0 x = 0 := by
  intro m
  induction m with
  | zero => intro i S q1 q2; omega
  | succ m ih =>
    intro i S q1 q2 h
    simp only [fJ7_fill_d0a16_L6, fJ7_fill_d0a16_b6]
    by_cases e : i = 30
    · subst e
      exact ⟨S, by rw [if_pos (c_le (Nat.le_refl _) (by decide))], Ch.rf _ _, rfl, rfl, h⟩
    · rw [if_neg (c_nle (show i < 30 by omega) (by decide)), ix_nI (show i < 30 by omega) (by decide), gd_t, bnd_e, cl (show i < 2147483648 by omega), nI_a1]
      obtain ⟨S', r1, r2, r3, r4, r5⟩ := ih (i + 1) (pB S 18 0 i 0) (by omega) (by omega) (fun x hx => by
        by_cases ex : x = i
        · subst ex; exact gB_ps _ _ _ _ _
        · rw [gB_pi _ _ _ _ _ _ ex]; exact h x (by omega))
      exact ⟨S', r1, Ch.trans ((Ch.rf 99 S).pB _ _ _ _) r2, r3, r4, r5⟩
theorem C_open_L {n kn Y c : Nat} {P : Nat → Nat → Nat} (F : Nat) (hk : kn < 10) (hY : Y ≤ 200) (hc : hds P n kn Y * c ≤ W12) : ∀ m i (S : St), i ≤ n → n < i + m → IvP S n P → TC S n (fun x => if x < i ∧ lf P kn Y x = true then c else 0) (W12 - fb_ct (lf P kn Y) i * c) → ∃ S', fX1_open_L41 F (nI kn) (nI Y) (lN c) m (nI i) S = some S' ∧ Ch 99 S S' ∧ gC S' = gC S ∧ TC S' n (fun x => if lf P kn Y x = true then c else 0) (W12 - hds P n kn Y * c) := by
  intro m
  induction m with
  | zero => intro i S q1 q2; omega
  | succ m ih =>
    intro i S q1 q2 hP hT
    have hn := hP.1
    simp only [fX1_open_L41, fX1_open_b41, hP.2.1]
    by_cases e : i = n
    · subst e
      refine ⟨S, by rw [if_pos (c_le (Nat.le_refl _) (by omega))], Ch.rf _ _, rfl, ⟨fun x hx => ?_, hT.2⟩⟩
      rw [hT.1 x hx]
      congr 1
      dsimp only
      by_cases q : lf P kn Y x = true
      · rw [if_pos (show x < i ∧ lf P kn Y x = true from ⟨hx, q⟩), if_pos q]
      · rw [if_neg (show ¬ (x < i ∧ lf P kn Y x = true) from fun z => q z.2), if_neg q]
    · have hi : i < n := by omega
      rw [if_neg (c_nle hi (by omega)), C_lf hP hi hk hY, cal_s, nI_a1]
      by_cases q : lf P kn Y i = true
      · rw [if_pos q, if_neg (by decide), ix_nI (show i < 30 by omega) (by decide), gd_t, bnd_e, bnd_e, cl (show i < 2147483648 by omega), gJ_pB, hT.2]
        have mono := fb_ct_mono (lf P kn Y) (show i + 1 ≤ n by omega)
        rw [fb_ct_succ, if_pos q] at mono
        have hm : (fb_ct (lf P kn Y) i + 1) * c ≤ W12 := Nat.le_trans (Nat.mul_le_mul_right c mono) hc
        rw [Nat.add_mul] at hm
        rw [lN_sub (by omega)]
        obtain ⟨S1, e1⟩ : ∃ S1 : St, S1 = pJ (pB S 18 0 i (lN c)) 1 0 2 (lN (W12 - fb_ct (lf P kn Y) i * c - c)) := ⟨_, rfl⟩
        rw [← e1]
        have ch1 : Ch 99 S S1 := by rw [e1]; exact ((Ch.rf 99 S).pB _ _ _ _).pJ _ _ _ _
        obtain ⟨S', r1, r2, r3, r4⟩ := ih (i + 1) S1 (by omega) (by omega) (hP.ch ch1 (by decide)) ⟨fun x hx => by
          dsimp only
          by_cases ex : x = i
          · subst ex; rw [e1, gB_pJ, gB_ps, if_pos (show x < x + 1 ∧ lf P kn Y x = true from ⟨by omega, q⟩)]
          · rw [e1, gB_pJ, gB_pi _ _ _ _ _ _ ex, hT.1 x hx]
            congr 1
            dsimp only
            by_cases z : x < i ∧ lf P kn Y x = true
            · rw [if_pos z, if_pos (show x < i + 1 ∧ lf P kn Y x = true from ⟨by omega, z.2⟩)]
            · rw [if_neg z, if_neg (show ¬ (x < i + 1 ∧ lf P kn Y x = true) from fun y => z ⟨by omega, y.2⟩)], by
          rw [e1, gJ_ps, fb_ct_succ, if_pos q, Nat.add_mul]
          congr 1; omega⟩
        exact ⟨S', r1, ch1.trans r2, r3.trans (by rw [e1]; rfl), r4⟩
      · rw [if_neg q, if_pos rfl]
        refine ih (i + 1) S (by omega) (by omega) hP ⟨fun x hx => ?_, ?_⟩
        · rw [hT.1 x hx]
          congr 1
          dsimp only
          by_cases z : x < i ∧ lf P kn Y x = true
          · rw [if_pos z, if_pos (show x < i + 1 ∧ lf P kn Y x = true from ⟨by omega, z.2⟩)]
          · rw [if_neg z, if_neg (show ¬ (x < i + 1 ∧ lf P kn Y x = true) from fun y => by
              by_cases ex : x = i
              · subst ex; exact q y.2
              · exact z ⟨by omega, y.2⟩)]
        · rw [hT.2, fb_ct_succ, if_neg q]; rfl
theorem C_open {S : St} {n kn Y : Nat} {P : Nat → Nat → Nat} (hP : IvP S n P) (F : Nat) (hF : 1000 ≤ F) (hk : kn < 10) (hY : Y ≤ 200) : ∃ S', fX1_open F S (nI kn) (nI Y) = some S' ∧ Ch 99 S S' ∧ gC S' = gC S ∧ TC S' n (bgn P n kn Y).1 (bgn P n kn Y).2 := by
  have hn := hP.1
  have hW : W12 < 2 ^ 63 := by decide
  obtain ⟨S1, r1, r2, r3, r4, r5⟩ := C_fill F F 0 S (Nat.zero_le _) (by omega) (fun x hx => by omega)
  have r1' : fJ7_fill_d0a16 F S 0 = some S1 := r1
  obtain ⟨S2, e2⟩ : ∃ S2 : St, S2 = pJ S1 1 0 2 1000000000000 := ⟨_, rfl⟩
  have ch2 : Ch 99 S S2 := by rw [e2]; exact r2.pJ _ _ _ _
  have hP2 : IvP S2 n P := hP.ch ch2 (by decide)
  have hx : ∀ x, x < n → gB S2 18 0 x = lN 0 := fun x hx => by rw [e2]; exact r5 x (by omega)
  have hl : gJ S2 1 0 2 = lN W12 := by rw [e2, gJ_ps]; rfl
  have g2 : gC S2 = gC S := by rw [e2]; exact r3
  unfold fX1_open
  rw [r1', cal_s, bnd_e, ← e2, C_hds hP2 F hF hk hY, cal_s]
  have hh : hds P n kn Y ≤ n := hds_le
  by_cases e : hds P n kn Y = 0
  · rw [e, if_pos (show nI 0 = 0 from rfl)]
    have none : ∀ j, j < n → lf P kn Y j = false := fb_ct_zero.mp e
    refine ⟨S2, rfl, ch2, g2, ⟨fun x h => ?_, ?_⟩⟩
    · rw [hx x h]; unfold bgn; simp only; rw [if_neg (by rw [none x h]; decide)]
    · rw [hl]; unfold bgn; simp only; rw [e]; simp
  · have nz : ¬ nI (hds P n kn Y) = 0 := c_ne (b := 0) e (by omega) (by decide)
    have nl : ¬ lN (hds P n kn Y) = 0 := fun q => e ((pk_lEQ (a := hds P n kn Y) (b := 0) (by omega) (by omega)).mp q)
    rw [if_neg nz, nI_l (by omega), decide_eq_false nl]
    show ∃ S', bnd _ _ = some S' ∧ _
    rw [bnd_e, show (1000000000000 : Int64) = lN W12 from rfl, pk_lDiv (by omega) (by omega) (by omega)]
    obtain ⟨S', s1, s2, s3, s4⟩ := C_open_L (P := P) (n := n) (c := W12 / hds P n kn Y) F hk hY (Nat.mul_div_le _ _) F 0 S2 (by omega) (by omega) hP2 ⟨fun x h => by
      dsimp only
      rw [hx x h, if_neg (show ¬ (x < 0 ∧ lf P kn Y x = true) from fun z => by omega)], by rw [hl]; simp [fb_ct]⟩
    exact ⟨S', s1, ch2.trans s2, s3.trans g2, s4⟩
theorem M_heads {n kn Y : Nat} {P : Nat → Nat → Nat} (F : Nat) (hk : kn < 10) (hY : Y ≤ 200) (k : St → Option St) : ∀ m i (S : St), i ≤ n → n < i + m → IvP S n P → gI S 11 0 34 = nI (fb_ct (lf P kn Y) i) → ∃ S', fX12_beginShares_L7 F (nI kn) (nI Y) k m (nI i) S = k S' ∧ Ch 99 S S' ∧ gC S' = gC S ∧ gI S' 11 0 34 = nI (hds P n kn Y) := by
  intro m
  induction m with
  | zero => intro i S q1 q2; omega
  | succ m ih =>
    intro i S q1 q2 hP hg
    have hn := hP.1
    simp only [fX12_beginShares_L7, fX12_beginShares_b7, hP.2.2.1]
    by_cases e : i = n
    · subst e
      exact ⟨S, by rw [if_pos (c_le (Nat.le_refl _) (by omega))], Ch.rf _ _, rfl, hg⟩
    · have hi : i < n := by omega
      rw [if_neg (c_nle hi (by omega)), M_lf hP hi hk hY, cal_s, hg]
      unfold fX12_beginShares_j35
      rw [bnd_e, bnd_e, nI_a1, nI_a1, Int32.add_zero]
      by_cases q : lf P kn Y i = true
      · rw [if_pos q, if_neg (by decide)]
        obtain ⟨S', r1, r2, r3, r4⟩ := ih (i + 1) (pI S 11 0 34 (nI (fb_ct (lf P kn Y) i + 1))) (by omega) (by omega) (hP.ch (Ch.pI (Ch.rf 99 S) _ (Or.inr rfl)) (by decide)) (by rw [gI_ps, fb_ct_succ, if_pos q])
        exact ⟨S', r1, (Ch.pI (Ch.rf 99 S) _ (Or.inr rfl)).trans r2, r3, r4⟩
      · rw [if_neg q, if_pos rfl]
        obtain ⟨S', r1, r2, r3, r4⟩ := ih (i + 1) (pI S 11 0 34 (nI (fb_ct (lf P kn Y) i))) (by omega) (by omega) (hP.ch (Ch.pI (Ch.rf 99 S) _ (Or.inr rfl)) (by decide)) (by rw [gI_ps, fb_ct_succ, if_neg q]; rfl)
        exact ⟨S', r1, (Ch.pI (Ch.rf 99 S) _ (Or.inr rfl)).trans r2, r3, r4⟩
theorem M_open_L {n kn Y : Nat} {P : Nat → Nat → Nat} (F : Nat) (hk : kn < 10) (hY : Y ≤ 200) : ∀ m i (S : St), i ≤ n → n < i + m → IvP S n P → gI S 11 0 34 = nI (hds P n kn Y) → (∀ x, x < i → gB S 76 0 x = lN ((bgn P n kn Y).1 x)) → gJ S 11 0 33 = lN (W12 - fb_ct (lf P kn Y) i * (W12 / hds P n kn Y)) → ∃ S', fX12_beginShares_L54 F (nI kn) (nI Y) m (nI i) S = some S' ∧ Ch 99 S S' ∧ gC S' = gC S ∧ gI S' 11 0 34 = nI (hds P n kn Y) ∧ TM S' n (bgn P n kn Y).1 (bgn P n kn Y).2 := by
  have hW : W12 < 2 ^ 63 := by decide
  intro m
  induction m with
  | zero => intro i S q1 q2; omega
  | succ m ih =>
    intro i S q1 q2 hP hg hx hl
    have hn := hP.1
    have hh : hds P n kn Y ≤ n := hds_le
    simp only [fX12_beginShares_L54, fX12_beginShares_b54, hP.2.2.1]
    by_cases e : i = n
    · subst e
      exact ⟨S, by rw [if_pos (c_le (Nat.le_refl _) (by omega))], Ch.rf _ _, rfl, hg, ⟨hx, hl⟩⟩
    · have hi : i < n := by omega
      rw [if_neg (c_nle hi (by omega)), M_lf hP hi hk hY, cal_s, hg]
      unfold fX12_beginShares_j90
      simp only [ix_nI (show i < 30 by omega) (by decide), gd_t, bnd_e, cl (show i < 2147483648 by omega), gB_ps, gJ_pB, hl, nI_a1]
      by_cases q : lf P kn Y i = true
      · have mono := fb_ct_mono (lf P kn Y) (show i + 1 ≤ n by omega)
        rw [fb_ct_succ, if_pos q] at mono
        have mono2 : fb_ct (lf P kn Y) i + 1 ≤ hds P n kn Y := mono
        have hm : (fb_ct (lf P kn Y) i + 1) * (W12 / hds P n kn Y) ≤ W12 := Nat.le_trans (Nat.mul_le_mul_right _ mono2) (Nat.mul_div_le _ _)
        rw [Nat.add_mul] at hm
        have nl : ¬ lN (hds P n kn Y) = 0 := fun q => by have := (pk_lEQ (a := hds P n kn Y) (b := 0) (by omega) (by omega)).mp q; omega
        rw [if_pos q, if_neg (by decide), nI_l (by omega), decide_eq_false nl]
        rw [show (!false) = true from rfl, gd_t, show (1000000000000 : Int64) = lN W12 from rfl, pk_lDiv (by omega) (by omega) (by omega), lN_sub (by omega)]
        obtain ⟨S1, e1⟩ : ∃ S1 : St, S1 = pJ (pB S 76 0 i (lN (W12 / hds P n kn Y))) 11 0 33 (lN (W12 - fb_ct (lf P kn Y) i * (W12 / hds P n kn Y) - W12 / hds P n kn Y)) := ⟨_, rfl⟩
        rw [← e1]
        have ch1 : Ch 99 S S1 := by rw [e1]; exact ((Ch.rf 99 S).pB _ _ _ _).pJ _ _ _ _
        obtain ⟨S', r1, r2, r3, r4⟩ := ih (i + 1) S1 (by omega) (by omega) (hP.ch ch1 (by decide)) (by rw [e1]; exact hg) (fun x hx2 => by
          by_cases ex : x = i
          · subst ex; rw [e1, gB_pJ, gB_ps]; unfold bgn; simp only; rw [if_pos q]
          · rw [e1, gB_pJ, gB_pi _ _ _ _ _ _ ex]; exact hx x (by omega)) (by rw [e1, gJ_ps, fb_ct_succ, if_pos q, Nat.add_mul]; congr 1; omega)
        exact ⟨S', r1, ch1.trans r2, r3.trans (by rw [e1]; rfl), r4⟩
      · rw [if_neg q, if_pos rfl, Int64.sub_zero]
        obtain ⟨S1, e1⟩ : ∃ S1 : St, S1 = pJ (pB S 76 0 i 0) 11 0 33 (lN (W12 - fb_ct (lf P kn Y) i * (W12 / hds P n kn Y))) := ⟨_, rfl⟩
        rw [← e1]
        have ch1 : Ch 99 S S1 := by rw [e1]; exact ((Ch.rf 99 S).pB _ _ _ _).pJ _ _ _ _
        obtain ⟨S', r1, r2, r3, r4⟩ := ih (i + 1) S1 (by omega) (by omega) (hP.ch ch1 (by decide)) (by rw [e1]; exact hg) (fun x hx2 => by
          by_cases ex : x = i
          · subst ex; rw [e1, gB_pJ, gB_ps]; unfold bgn; simp only; rw [if_neg q]; rfl
          · rw [e1, gB_pJ, gB_pi _ _ _ _ _ _ ex]; exact hx x (by omega)) (by rw [e1, gJ_ps, fb_ct_succ, if_neg q]; rfl)
        exact ⟨S', r1, ch1.trans r2, r3.trans (by rw [e1]; rfl), r4⟩
theorem M_open {S : St} {n kn Y : Nat} {P : Nat → Nat → Nat} (hP : IvP S n P) (F : Nat) (hF : 1000 ≤ F) (hk : kn < 10) (hY : Y ≤ 200) : ∃ S', fX12_beginShares F S (nI kn) (nI Y) = some S' ∧ Ch 99 S S' ∧ gC S' = gC S ∧ gI S' 11 0 34 = nI (hds P n kn Y) ∧ TM S' n (bgn P n kn Y).1 (bgn P n kn Y).2 := by
  have hn := hP.1
  obtain ⟨S1, e1⟩ : ∃ S1 : St, S1 = pI S 11 0 34 0 := ⟨_, rfl⟩
  have ch1 : Ch 99 S S1 := by rw [e1]; exact Ch.pI (Ch.rf 99 S) _ (Or.inr rfl)
  obtain ⟨S2, r1, r2, r3, r4⟩ := M_heads F hk hY (fun S_4 => bnd (pJ S_4 11 0 33 1000000000000) fun S_5 => fX12_beginShares_L54 F (nI kn) (nI Y) F 0 S_5) F 0 S1 (Nat.zero_le _) (by omega) (hP.ch ch1 (by decide)) (by rw [e1, gI_ps]; rfl)
  obtain ⟨S3, e3⟩ : ∃ S3 : St, S3 = pJ S2 11 0 33 1000000000000 := ⟨_, rfl⟩
  have ch3 : Ch 99 S S3 := by rw [e3]; exact (ch1.trans r2).pJ _ _ _ _
  obtain ⟨S', s1, s2, s3, s4, s5⟩ := M_open_L F hk hY F 0 S3 (Nat.zero_le _) (by omega) (hP.ch ch3 (by decide)) (by rw [e3]; exact r4) (fun x hx => by omega) (by rw [e3, gJ_ps]; simp [fb_ct]; rfl)
  refine ⟨S', ?_, ch3.trans s2, ?_, s4, s5⟩
  · unfold fX12_beginShares
    rw [bnd_e, ← e1]
    refine Eq.trans r1 ?_
    rw [bnd_e, ← e3]; exact s1
  · rw [s3, e3]
    exact r3.trans (by rw [e1]; rfl)
