theorem M_give0 (F : Nat) (x2 x3 : Int32) (k : St → Option St) (m : Nat) (x9 : Int32) (S : St) : fX12_handOn_L149 F x2 x3 0 k (m + 1) x9 S = k S := by
  simp only [fX12_handOn_L149, fX12_handOn_b149]
  by_cases h : (gI S 11 0 6) ≤ x9
  · rw [if_pos h]
  · rw [if_neg h, if_pos (by decide)]
theorem sub_mul_toInt {v k : Nat} (hk : k ≤ 30) : lN v - lN (v / k) * (nI k).toInt64 = lN (v - v / k * k) := by
  rw [nI_l (by omega), lN_mul, lN_sub (Nat.div_mul_le_self v k)]
theorem M_step {S : St} (F : Nat) {Y hh v k L : Nat} (hk : k ≤ 30) (hv : v ≤ W12) (hL : gJ S 11 0 33 = lN L) (rec : St → Option St) : (if nI k = 0 then fX12_handOn_j126 F S (nI Y) (nI hh) (lN v) (nI k) 0 rec else gd (!(decide ((nI k).toInt64 = (0 : Int64)))) (fX12_handOn_j126 F S (nI Y) (nI hh) (lN v) (nI k) (lN v / (nI k).toInt64) rec)) = fX12_handOn_L149 F (nI Y) (nI hh) (lN (v / k)) (fun S_18 => rec S_18) F 0 (pJ S 11 0 33 (lN (L + (v - v / k * k)))) := by
  have hW : W12 < 2 ^ 63 := by decide
  have ee := sub_mul_toInt (v := v) (k := k) hk
  by_cases e : k = 0
  · subst e
    rw [if_pos (show nI 0 = 0 from rfl)]
    simp only [Nat.div_zero] at ee ⊢
    unfold fX12_handOn_j126
    rw [bnd_e, hL, show (0 : Int64) = lN 0 from rfl, ee, lN_add]
  · have nz : ¬ nI k = 0 := c_ne (b := 0) e (by omega) (by decide)
    have nl : ¬ lN k = 0 := fun q => e ((pk_lEQ (a := k) (b := 0) (by omega) (by omega)).mp q)
    rw [if_neg nz]
    have e2 : (nI k).toInt64 = lN k := nI_l (by omega)
    have e3 : lN v / (nI k).toInt64 = lN (v / k) := by rw [e2]; exact pk_lDiv (by omega) (by omega) (by omega)
    rw [e3]
    rw [e2, decide_eq_false nl]
    show fX12_handOn_j126 _ _ _ _ _ _ _ _ = _
    unfold fX12_handOn_j126
    rw [bnd_e, hL, ee, lN_add]
theorem giv_z {P : Nat → Nat → Nat} {n Y h y : Nat} (hf : Fam P n) (hh : h < n) (e : ¬ Y < P 1 h) (hz : y / kc P n Y h = 0) : (∀ x, x < n → giv P n Y h y x = 0) ∧ lap P n Y h y = y - y / kc P n Y h * kc P n Y h := by
  constructor
  · intro x hx
    rw [giv_d hf hh e, hz]
    refine sm_0 (fun j hj => ?_)
    by_cases q : chd P Y h j = true
    · rw [if_pos q]; exact (giv_0 hf hj).1 x hx
    · rw [if_neg q]
  · rw [lap_d hf hh e, hz]
    have : fb_sm (fun j => if chd P Y h j = true then lap P n Y j 0 else 0) n = 0 := sm_0 (fun j hj => by
      by_cases q : chd P Y h j = true
      · rw [if_pos q]; exact (giv_0 hf hj).2
      · rw [if_neg q])
    rw [this, Nat.add_zero]
theorem M_hand_L {n Y : Nat} {P : Nat → Nat → Nat} (F : Nat) (hF : 1000 ≤ F) (hY : Y ≤ 200) : ∀ m (S : St) (q : Nat) (hs vs T : Nat → Nat) (L : Nat), IvP S n P → TM S n T L → SK S P n Y q hs vs → mu hs q < m → ∃ (S' : St) (T' : Nat → Nat) (L' : Nat), fX12_handOn_L31 F (nI Y) m S = some S' ∧ Ch 99 S S' ∧ gC S' = gC S ∧ TM S' n T' L' ∧ (∀ x, x < n → T' x = T x + fb_sm (fun p => giv P n Y (hs p) (vs p) x) q) ∧ L' = L + fb_sm (fun p => lap P n Y (hs p) (vs p)) q := by
  intro m
  induction m with
  | zero => intro S q hs vs T L hP hT hK hm; omega
  | succ m ih =>
    intro S q hs vs T L hP hT hK hm
    have hn := hP.1
    cases q with
    | zero =>
      refine ⟨S, T, L, ?_, Ch.rf _ _, rfl, hT, fun x hx => rfl, rfl⟩
      simp only [fX12_handOn_L31, fX12_handOn_b31, hK.1]
      rw [if_pos (show nI 0 ≤ 0 by decide)]
    | succ q =>
      obtain ⟨k1, k2, k3, k4, k5, k6⟩ := hK.2 q (by omega)
      obtain ⟨h, eh⟩ : ∃ h, h = hs q := ⟨_, rfl⟩
      obtain ⟨v, ev⟩ : ∃ v, v = vs q := ⟨_, rfl⟩
      rw [← eh] at k1 k3 k4 k6
      rw [← ev] at k2 k5
      obtain ⟨S5, e5⟩ : ∃ S5 : St, S5 = pI S 11 0 35 (nI q) := ⟨_, rfl⟩
      have ch5 : Ch 99 S S5 := by rw [e5]; exact Ch.pI (Ch.rf 99 S) _ (Or.inr rfl)
      have hP5 : IvP S5 n P := hP.ch ch5 (by decide)
      have g5 : gI S5 11 0 35 = nI q := by rw [e5, gI_ps]
      have a5 : gA S5 77 0 q = nI h := by rw [e5]; exact k1
      have b5 : gB S5 78 0 q = lN v := by rw [e5]; exact k2
      have l5 : gJ S5 11 0 33 = lN L := by rw [e5]; exact hT.2
      have hkc : kc P n Y h ≤ 30 := Nat.le_trans kc_le hn
      obtain ⟨S6, e6⟩ : ∃ S6 : St, S6 = pJ S5 11 0 33 (lN (L + (v - v / kc P n Y h * kc P n Y h))) := ⟨_, rfl⟩
      have ch6 : Ch 99 S S6 := by rw [e6]; exact ch5.pJ _ _ _ _
      have st : fX12_handOn_L31 F (nI Y) (m + 1) S = fX12_handOn_L149 F (nI Y) (nI h) (lN (v / kc P n Y h)) (fun S_18 => fX12_handOn_L31 F (nI Y) m S_18) F 0 S6 := by
        simp only [fX12_handOn_L31, fX12_handOn_b31, hK.1]
        rw [if_neg (show ¬ nI (q + 1) ≤ 0 from c_nle (b := 0) (by omega) (by omega)), bnd_e, nI_pred, ← e5, g5, ix_nI (show q < 900 by omega) (by decide), gd_t, cl (show q < 2147483648 by omega), a5, bnd_e, gd_t, b5, bnd_e]
        refine Eq.trans (M_kids hP5 F (by omega) hY (lN v) _ F 0 (by omega) (by omega)) ?_
        refine Eq.trans (M_step F hkc k5 l5 (fX12_handOn_L31 F (nI Y) m)) ?_
        rw [e6]
      have hP6 : IvP S6 n P := hP.ch ch6 (by decide)
      have hT6 : TM S6 n T (L + (v - v / kc P n Y h * kc P n Y h)) := by
        refine ⟨fun x hx => by rw [e6, e5]; exact hT.1 x hx, by rw [e6, gJ_ps]⟩
      have hK6 : SK S6 P n Y q hs vs := by
        refine ⟨by rw [e6, e5, gI_pJ, gI_ps], fun p hp => ?_⟩
        obtain ⟨j1, j2, j3⟩ := hK.2 p (by omega)
        exact ⟨by rw [e6, e5]; exact j1, by rw [e6, e5]; exact j2, j3⟩
      have dd : ¬ Y < P 1 h := by omega
      have hmu : mu hs (q + 1) = mu hs q + 2 ^ (30 - h) := by rw [eh]; rfl
      have hpos : 0 < 2 ^ (30 - h) := Nat.pos_of_ne_zero (by simp)
      by_cases ez : v / kc P n Y h = 0
      · obtain ⟨z1, z2⟩ := giv_z hP.fam k3 dd ez
        obtain ⟨f, rfl⟩ : ∃ f, F = f + 1 := ⟨F - 1, by omega⟩
        have st2 := st
        rw [ez] at st2
        have st3 : fX12_handOn_L31 (f + 1) (nI Y) (m + 1) S = fX12_handOn_L31 (f + 1) (nI Y) m S6 := st2.trans (M_give0 _ _ _ _ _ _ _)
        obtain ⟨S', T', L', r1, r2, r3, r4, r5, r6⟩ := ih S6 q hs vs T _ hP6 hT6 hK6 (by omega)
        refine ⟨S', T', L', st3.trans r1, ch6.trans r2, r3.trans (by rw [e6, e5]; rfl), r4, fun x hx => ?_, ?_⟩
        · rw [r5 x hx, fb_sm_succ, ← eh, ← ev, z1 x hx, Nat.add_zero]
        · rw [r6, fb_sm_succ, ← eh, ← ev, z2]; omega
      · have hle : v / kc P n Y h ≤ v := Nat.div_le_self _ _
        obtain ⟨S7, q7, hs7, vs7, T7, L7, r1, r2, r3, r4, r5, r6, r7, r8⟩ := M_give (P := P) (n := n) (hh := h) (e := v / kc P n Y h) F hY k3 (Nat.pos_of_ne_zero ez) (Nat.le_trans hle k5) (fun S_18 => fX12_handOn_L31 F (nI Y) m S_18) (fun x => T x + fb_sm (fun p => giv P n Y (hs p) (vs p) x) q) (mu hs q) (L + (v - v / kc P n Y h * kc P n Y h) + fb_sm (fun p => lap P n Y (hs p) (vs p)) q) F 0 S6 q hs vs T _ hP6 (by omega) (by omega) hT6 hK6 (by omega) (fun x hx => rfl) rfl (Nat.le_refl _)
        have wl := wgt_lt (Y := Y) hP.fam hn k3
        obtain ⟨S', T', L', s1, s2, s3, s4, s5, s6⟩ := ih S7 q7 hs7 vs7 T7 L7 (hP6.ch r2 (by decide)) r4 r5 (by omega)
        refine ⟨S', T', L', (st.trans r1).trans s1, (ch6.trans r2).trans s2, s3.trans (r3.trans (by rw [e6, e5]; rfl)), s4, fun x hx => ?_, ?_⟩
        · rw [s5 x hx, r6 x hx, fb_sm_succ, ← eh, ← ev, giv_d hP.fam k3 dd]; omega
        · rw [s6, r7, fb_sm_succ, ← eh, ← ev, lap_d hP.fam k3 dd]; omega
theorem mu_1 {hs : Nat → Nat} : mu hs 1 = 2 ^ (30 - hs 0) := by unfold mu; rw [fb_sm_succ]; simp [fb_sm]
/-- one dead hands on -/
def hnd (P : Nat → Nat → Nat) (n Y i : Nat) (q : (Nat → Nat) × Nat) : (Nat → Nat) × Nat := (fun x => (if x = i then 0 else q.1 x) + giv P n Y i (q.1 i) x, q.2 + lap P n Y i (q.1 i))
/-- those of one year, up to the k-th -/
def yst (P : Nat → Nat → Nat) (n Y : Nat) : Nat → (Nat → Nat) × Nat → (Nat → Nat) × Nat
  | 0, q => q
  | k + 1, q => if P 1 k = Y ∧ 0 < (yst P n Y k q).1 k then hnd P n Y k (yst P n Y k q) else yst P n Y k q
def tot (n : Nat) (q : (Nat → Nat) × Nat) : Nat := fb_sm q.1 n + q.2
theorem hnd_tot {P : Nat → Nat → Nat} {n Y i : Nat} {q : (Nat → Nat) × Nat} (hf : Fam P n) (hi : i < n) : tot n (hnd P n Y i q) = tot n q := by
  show fb_sm (fun x => (if x = i then 0 else q.1 x) + giv P n Y i (q.1 i) x) n + (q.2 + lap P n Y i (q.1 i)) = fb_sm q.1 n + q.2
  rw [fb_sm_add (fun x => if x = i then 0 else q.1 x) (fun x => giv P n Y i (q.1 i) x)]
  have a := giv_sum (Y := Y) hf n i (q.1 i) (by omega) hi
  have b := fb_sm_upd q.1 0 hi
  omega
theorem yst_tot {P : Nat → Nat → Nat} {n Y : Nat} {q : (Nat → Nat) × Nat} (hf : Fam P n) : ∀ k, k ≤ n → tot n (yst P n Y k q) = tot n q := by
  intro k
  induction k with
  | zero => intro _; rfl
  | succ k ih =>
    intro hk
    rw [yst]
    by_cases c : P 1 k = Y ∧ 0 < (yst P n Y k q).1 k
    · rw [if_pos c, hnd_tot hf (by omega)]; exact ih (by omega)
    · rw [if_neg c]; exact ih (by omega)
theorem tot_le {n x : Nat} {q : (Nat → Nat) × Nat} (hx : x < n) : q.1 x ≤ tot n q := by
  unfold tot
  have := fb_sm_part q.1 hx
  omega
theorem M_hand {S : St} {n Y i : Nat} {P : Nat → Nat → Nat} {q : (Nat → Nat) × Nat} (hP : IvP S n P) (F : Nat) (hF : 2000000000 ≤ F) (hY : Y ≤ 200) (hi : i < n) (hd : P 1 i ≤ Y) (hT : TM S n q.1 q.2) (hw : q.1 i ≤ W12) : ∃ S', fX12_handOn F S (nI i) (nI Y) = some S' ∧ Ch 99 S S' ∧ gC S' = gC S ∧ TM S' n (hnd P n Y i q).1 (hnd P n Y i q).2 := by
  have hn := hP.1
  obtain ⟨S4, e4⟩ : ∃ S4 : St, S4 = pB (pI (pB (pA S 77 0 0 (nI i)) 78 0 0 (lN (q.1 i))) 11 0 35 1) 76 0 i 0 := ⟨_, rfl⟩
  have ch4 : Ch 99 S S4 := by
    rw [e4]
    exact Ch.pB (Ch.pI (Ch.pB (Ch.pA (Ch.rf 99 S) _ (Or.inr rfl)) _ _ _ _) _ (Or.inr rfl)) _ _ _ _
  have st : fX12_handOn F S (nI i) (nI Y) = fX12_handOn_L31 F (nI Y) F S4 := by
    unfold fX12_handOn
    rw [show ix 0 900 = true by decide, gd_t, bnd_e, ix_nI (show i < 30 by omega) (by decide), gd_t, gd_t, show (0 : Int32).toNatClampNeg = 0 by decide, cl (show i < 2147483648 by omega), gB_pA, hT.1 i hi, bnd_e, bnd_e, gd_t, bnd_e, e4]
  have hT4 : TM S4 n (fun x => if x = i then 0 else q.1 x) q.2 := by
    refine ⟨fun x hx => ?_, by rw [e4]; exact hT.2⟩
    dsimp only
    by_cases ex : x = i
    · subst ex; rw [e4, gB_ps, if_pos rfl]; rfl
    · rw [e4, gB_pi _ _ _ _ _ _ ex, if_neg ex, gB_pI, gB_pc _ _ _ _ _ _ (by decide)]; exact hT.1 x hx
  have hK4 : SK S4 P n Y 1 (fun _ => i) (fun _ => q.1 i) := by
    refine ⟨by rw [e4, gI_pB, gI_ps]; rfl, fun p hp => ?_⟩
    have e0 : p = 0 := by omega
    subst e0
    exact ⟨by rw [e4, gA_pB, gA_pI, gA_pB, gA_ps], by rw [e4, gB_pc _ _ _ _ _ _ (by decide), gB_pI, gB_ps], hi, hd, hw, by omega⟩
  have h30 : 2 ^ (30 - i) ≤ 2 ^ 30 := Nat.pow_le_pow_right (by decide) (by omega)
  have h31 : 2 ^ 30 < 2000000000 := by decide
  obtain ⟨S', T', L', r1, r2, r3, r4, r5, r6⟩ := M_hand_L (P := P) (n := n) F (by omega) hY F S4 1 (fun _ => i) (fun _ => q.1 i) _ _ (hP.ch ch4 (by decide)) hT4 hK4 (by rw [mu_1]; omega)
  refine ⟨S', st.trans r1, ch4.trans r2, r3.trans (by rw [e4]; rfl), ⟨fun x hx => ?_, ?_⟩⟩
  · rw [r4.1 x hx, r5 x hx, fb_sm_succ]
    unfold hnd
    simp only [fb_sm, Nat.zero_add]
  · rw [r4.2, r6, fb_sm_succ]
    unfold hnd
    simp only [fb_sm, Nat.zero_add]
theorem M_year_L {n Y : Nat} {P : Nat → Nat → Nat} {q : (Nat → Nat) × Nat} (F : Nat) (hF : 2000000000 ≤ F) (hY : Y ≤ 200) (hq : tot n q = W12) : ∀ m i (S : St), i ≤ n → n < i + m → IvP S n P → TM S n (yst P n Y i q).1 (yst P n Y i q).2 → ∃ S', fX12_goYear_L2 F (nI Y) m (nI i) S = some S' ∧ Ch 99 S S' ∧ gC S' = gC S ∧ TM S' n (yst P n Y n q).1 (yst P n Y n q).2 := by
  have hW : W12 < 2 ^ 63 := by decide
  intro m
  induction m with
  | zero => intro i S q1 q2; omega
  | succ m ih =>
    intro i S q1 q2 hP hT
    have hn := hP.1
    by_cases en : i = n
    · subst en
      refine ⟨S, ?_, Ch.rf _ _, rfl, hT⟩
      simp only [fX12_goYear_L2, fX12_goYear_b2, hP.2.2.1]
      rw [if_pos (c_le (Nat.le_refl _) (by omega))]
    have hi : i < n := by omega
    have hx := P1_lt hP hi
    obtain ⟨p0, p1, p2, p3, p4, p5, p6, p7, p8, p9, p10, x0, x1, x2⟩ := hP.2.2.2 i hi
    have hti : (yst P n Y i q).1 i ≤ W12 := by rw [← hq, ← yst_tot (Y := Y) (q := q) hP.fam i q1]; exact tot_le hi
    have hl := lg_le0 (y := (yst P n Y i q).1 i) (by omega)
    simp only [fX12_goYear_L2, fX12_goYear_b2, hP.2.2.1]
    rw [if_neg (c_nle hi (by omega)), ix_nI (show i < 30 by omega) (by decide), gd_t, gd_t, cl (show i < 2147483648 by omega), p7, hT.1 i hi, nI_a1]
    by_cases c : P 1 i = Y ∧ 0 < (yst P n Y i q).1 i
    · rw [if_pos (show nI (P 1 i) = nI Y by rw [c.1]), if_neg (fun z => by have := hl.mp z; omega)]
      obtain ⟨S1, r1, r2, r3, r4⟩ := M_hand hP F hF hY hi (by omega) hT hti
      have e : yst P n Y (i + 1) q = hnd P n Y i (yst P n Y i q) := by rw [yst, if_pos c]
      rw [← e] at r4
      obtain ⟨S', s1, s2, s3, s4⟩ := ih (i + 1) S1 (by omega) (by omega) (hP.ch r2 (by decide)) r4
      exact ⟨S', by rw [r1, cal_s]; exact s1, r2.trans s2, s3.trans r3, s4⟩
    · have e : yst P n Y (i + 1) q = yst P n Y i q := by rw [yst, if_neg c]
      rw [← e] at hT
      obtain ⟨S', s1, s2, s3, s4⟩ := ih (i + 1) S (by omega) (by omega) hP hT
      refine ⟨S', ?_, s2, s3, s4⟩
      by_cases c1 : P 1 i = Y
      · rw [if_pos (show nI (P 1 i) = nI Y by rw [c1]), if_pos (hl.mpr (by omega))]; exact s1
      · rw [if_neg (c_ne c1 (by omega) (by omega))]; exact s1
theorem M_year {S : St} {n Y : Nat} {P : Nat → Nat → Nat} {q : (Nat → Nat) × Nat} (hP : IvP S n P) (F : Nat) (hF : 2000000000 ≤ F) (hY : Y ≤ 200) (hq : tot n q = W12) (hT : TM S n q.1 q.2) : ∃ S', fX12_goYear F S (nI Y) = some S' ∧ Ch 99 S S' ∧ gC S' = gC S ∧ TM S' n (yst P n Y n q).1 (yst P n Y n q).2 := M_year_L F hF hY hq F 0 S (by omega) (by have := hP.1; omega) hP hT
