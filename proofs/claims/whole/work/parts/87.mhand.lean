/-! WHO IS A CHILD; THE REFERENCE HANDS ON -/
theorem m1_eq {a h : Nat} (ha : a < 2147483648) (hh : h + 1 < 2147483648) : (nI a - 1 = nI h) ↔ a = h + 1 := by
  constructor
  · intro e
    have e2 : nI a = nI (h + 1) := by
      have e3 : nI a - 1 + 1 = nI h + 1 := by rw [e]
      rw [Int32.sub_add_cancel, nI_a1] at e3
      exact e3
    exact (nI_eq (by omega) (by omega)).mp e2
  · intro e
    rw [e, nI_pred]
theorem C_chd {S : St} {n : Nat} {P : Nat → Nat → Nat} (h : IvP S n P) {j hh Y : Nat} (hj : j < n) (h30 : hh < 30) (hY : Y ≤ 200) : fX7_isChild S (nI j) (nI hh) (nI Y) = some (if chd P Y hh j = true then 1 else 0) := by
  obtain ⟨q0, q1, q2, q3, q4, q5, q6, q7, q8, q9, q10, x0, x1, x2, x3, x4, x5, x6⟩ := h.2.2.2 j hj
  have hn := h.1
  have e1 := m1_eq (a := P 2 j) (h := hh) (by omega) (by omega)
  have e2 := m1_eq (a := P 3 j) (h := hh) (by omega) (by omega)
  simp only [fX7_isChild, fX7_isChild_j20, ix_nI (show j < 30 by omega) (by decide), gd_t, cl (show j < 2147483648 by omega), q0, q2, q3]
  by_cases b : P 0 j ≤ Y
  · have nb : ¬ nI Y < nI (P 0 j) := c_nlt b (by omega)
    by_cases a1 : P 2 j = hh + 1
    · rw [if_pos (e1.mpr a1), if_neg nb, if_pos (by simp [chd, a1, b])]
    · rw [if_neg (fun q => a1 (e1.mp q))]
      by_cases a2 : P 3 j = hh + 1
      · rw [if_pos (e2.mpr a2), if_neg nb, if_pos (by simp [chd, a2, b])]
      · rw [if_neg (fun q => a2 (e2.mp q)), if_neg (by simp [chd, a1, a2])]
  · have nb : nI Y < nI (P 0 j) := c_lt (by omega) (by omega)
    rw [if_pos nb]
    have nc : ¬ chd P Y hh j = true := by simp [chd, b]
    rw [if_neg nc]
    by_cases a1 : P 2 j = hh + 1
    · rw [if_pos (e1.mpr a1)]
    · rw [if_neg (fun q => a1 (e1.mp q))]
      by_cases a2 : P 3 j = hh + 1
      · rw [if_pos (e2.mpr a2)]
      · rw [if_neg (fun q => a2 (e2.mp q))]
theorem M_chd {S : St} {n : Nat} {P : Nat → Nat → Nat} (h : IvP S n P) {j hh Y : Nat} (hj : j < n) (h30 : hh < 30) (hY : Y ≤ 200) : fX12_isChild S (nI j) (nI hh) (nI Y) = some (if chd P Y hh j = true then 1 else 0) := by
  obtain ⟨q0, q1, q2, q3, q4, q5, q6, q7, q8, q9, q10, x0, x1, x2, x3, x4, x5, x6⟩ := h.2.2.2 j hj
  have hn := h.1
  have e1 := m1_eq (a := P 2 j) (h := hh) (by omega) (by omega)
  have e2 := m1_eq (a := P 3 j) (h := hh) (by omega) (by omega)
  have d2 : (2 : Int32) * nI j = nI (2 * j) := pk_mul 2 j
  simp only [fX12_isChild, fX12_isChild_j26, d2, nI_a1, ix_nI (show j < 30 by omega) (by decide), ix_nI (show 2 * j < 60 by omega) (by decide), ix_nI (show 2 * j + 1 < 60 by omega) (by decide), gd_t, cl (show j < 2147483648 by omega), cl (show 2 * j < 2147483648 by omega), cl (show 2 * j + 1 < 2147483648 by omega), q6, q8, q9]
  by_cases b : P 0 j ≤ Y
  · have nb : ¬ nI Y < nI (P 0 j) := c_nlt b (by omega)
    by_cases a1 : P 2 j = hh + 1
    · rw [if_pos (e1.mpr a1), if_neg nb, if_pos (by simp [chd, a1, b])]
    · rw [if_neg (fun q => a1 (e1.mp q))]
      by_cases a2 : P 3 j = hh + 1
      · rw [if_pos (e2.mpr a2), if_neg nb, if_pos (by simp [chd, a2, b])]
      · rw [if_neg (fun q => a2 (e2.mp q)), if_neg (by simp [chd, a1, a2])]
  · have nb : nI Y < nI (P 0 j) := c_lt (by omega) (by omega)
    rw [if_pos nb]
    have nc : ¬ chd P Y hh j = true := by simp [chd, b]
    rw [if_neg nc]
    by_cases a1 : P 2 j = hh + 1
    · rw [if_pos (e1.mpr a1)]
    · rw [if_neg (fun q => a1 (e1.mp q))]
      by_cases a2 : P 3 j = hh + 1
      · rw [if_pos (e2.mpr a2)]
      · rw [if_neg (fun q => a2 (e2.mp q))]
theorem C_kids {S : St} {n : Nat} {P : Nat → Nat → Nat} (h : IvP S n P) (F : Nat) {hh Y : Nat} (h30 : hh < 30) (hY : Y ≤ 200) : ∀ m i, i ≤ n → n < i + m → fX7_children_L5 F S (nI hh) (nI Y) m (nI (fb_ct (chd P Y hh) i)) (nI i) = some (nI (kc P n Y hh)) := by
  have hn := h.1
  intro m
  induction m with
  | zero => intro i q1 q2; omega
  | succ m ih =>
    intro i q1 q2
    simp only [fX7_children_L5, fX7_children_b5, h.2.1]
    by_cases e : i = n
    · subst e; rw [if_pos (c_le (Nat.le_refl _) (by omega))]; rfl
    · rw [if_neg (c_nle (show i < n by omega) (by omega)), C_chd h (show i < n by omega) h30 hY, cal_s, nI_a1, nI_a1]
      have ihh := ih (i + 1) (by omega) (by omega)
      rw [fb_ct_succ] at ihh
      by_cases q : chd P Y hh i = true
      · rw [if_pos q, if_neg (by decide)]
        rw [if_pos q] at ihh; exact ihh
      · rw [if_neg q, if_pos rfl]
        rw [if_neg q] at ihh; exact ihh
theorem C_kc {S : St} {n : Nat} {P : Nat → Nat → Nat} (h : IvP S n P) (F : Nat) (hF : 1000 ≤ F) {hh Y : Nat} (h30 : hh < 30) (hY : Y ≤ 200) : fX7_children F S (nI hh) (nI Y) = some (nI (kc P n Y hh)) := C_kids h F h30 hY F 0 (by omega) (by have := h.1; omega)
theorem M_kids {S : St} {n : Nat} {P : Nat → Nat → Nat} (h : IvP S n P) (F : Nat) {hh Y : Nat} (h30 : hh < 30) (hY : Y ≤ 200) (y4 : Int64) (k : Int32 → Option St) : ∀ m i, i ≤ n → n < i + m → fX12_handOn_L75 F S (nI Y) (nI hh) y4 k m (nI (fb_ct (chd P Y hh) i)) (nI i) = k (nI (kc P n Y hh)) := by
  have hn := h.1
  intro m
  induction m with
  | zero => intro i q1 q2; omega
  | succ m ih =>
    intro i q1 q2
    simp only [fX12_handOn_L75, fX12_handOn_b75, h.2.2.1]
    by_cases e : i = n
    · subst e; rw [if_pos (c_le (Nat.le_refl _) (by omega))]; rfl
    · rw [if_neg (c_nle (show i < n by omega) (by omega)), M_chd h (show i < n by omega) h30 hY, cal_s, bnd_e, bnd_e, Int32.add_zero, nI_a1, nI_a1]
      have ihh := ih (i + 1) (by omega) (by omega)
      rw [fb_ct_succ] at ihh
      by_cases q : chd P Y hh i = true
      · rw [if_pos q, if_neg (by decide)]
        rw [if_pos q] at ihh; exact ihh
      · rw [if_neg q, if_pos rfl]
        rw [if_neg q] at ihh; exact ihh
theorem kc_le {P : Nat → Nat → Nat} {n Y h : Nat} : kc P n Y h ≤ n := fb_ct_le _ n
def W12 : Nat := 1000000000000
/-- what the reference holds: parts T, lapsed L -/
def TM (S : St) (n : Nat) (T : Nat → Nat) (L : Nat) : Prop := (∀ x, x < n → gB S 76 0 x = lN (T x)) ∧ gJ S 11 0 33 = lN L
/-- its stack -/
def SK (S : St) (P : Nat → Nat → Nat) (n Y q : Nat) (hs vs : Nat → Nat) : Prop := gI S 11 0 35 = nI q ∧ ∀ p, p < q → gA S 77 0 p = nI (hs p) ∧ gB S 78 0 p = lN (vs p) ∧ hs p < n ∧ P 1 (hs p) ≤ Y ∧ vs p ≤ W12 ∧ p ≤ 29 * hs p
/-- how much work is on it -/
def mu (hs : Nat → Nat) (q : Nat) : Nat := fb_sm (fun p => 2 ^ (30 - hs p)) q
theorem fb_sm_push (f : Nat → Nat → Nat) (hs vs : Nat → Nat) (q h v : Nat) : fb_sm (fun p => f (if p = q then h else hs p) (if p = q then v else vs p)) (q + 1) = fb_sm (fun p => f (hs p) (vs p)) q + f h v := by
  rw [fb_sm_succ, if_pos rfl, if_pos rfl]
  congr 1
  refine fb_sm_cong (fun k hk => ?_)
  rw [if_neg (by omega), if_neg (by omega)]
theorem wgt {h : Nat} : ∀ i, i ≤ 30 → h + 1 ≤ i → fb_sm (fun j => if h < j then 2 ^ (30 - j) else 0) i + 2 ^ (31 - i) = 2 ^ (30 - h) := by
  intro i
  induction i with
  | zero => intro a b; omega
  | succ i ih =>
    intro a b
    by_cases e : i = h
    · subst e
      have z : fb_sm (fun j => if i < j then 2 ^ (30 - j) else 0) (i + 1) = 0 := sm_0 (fun k hk => if_neg (by omega))
      rw [z, Nat.zero_add]
      congr 1; omega
    · have ihh := ih (by omega) (by omega)
      have e1 : 31 - i = (30 - i) + 1 := by omega
      have e2 : 31 - (i + 1) = 30 - i := by omega
      rw [fb_sm_succ, if_pos (by omega), e2]
      rw [e1, Nat.pow_succ] at ihh
      omega
theorem wgt_lt {P : Nat → Nat → Nat} {n Y h : Nat} (hf : Fam P n) (hn : n ≤ 30) (hh : h < n) : fb_sm (fun j => if chd P Y h j = true then 2 ^ (30 - j) else 0) n < 2 ^ (30 - h) := by
  have a := wgt (h := h) n hn (by omega)
  have b : fb_sm (fun j => if chd P Y h j = true then 2 ^ (30 - j) else 0) n ≤ fb_sm (fun j => if h < j then 2 ^ (30 - j) else 0) n := by
    refine fb_sm_le (fun j hj => ?_)
    by_cases q : chd P Y h j = true
    · rw [if_pos q, if_pos (chd_lt hf hj q)]; exact Nat.le_refl _
    · rw [if_neg q]; exact Nat.zero_le _
  have c : 0 < 2 ^ (31 - n) := Nat.pos_of_ne_zero (by simp)
  omega
theorem IvP.fam {S : St} {n : Nat} {P : Nat → Nat → Nat} (h : IvP S n P) : Fam P n := fun j hj => by
  obtain ⟨q0, q1, q2, q3, q4, q5, q6, q7, q8, q9, q10, x0, x1, x2, x3, x4, x5, x6⟩ := h.2.2.2 j hj
  exact ⟨x2, x3⟩
theorem lg_le0 {y : Nat} (h : y < 2 ^ 63) : (lg_cmp (lN y) 0 ≤ 0) ↔ y = 0 := by
  have a := lg_gt (lN y) 0
  rw [pk_lT h, show (0 : Int64).toInt = 0 by decide] at a
  constructor
  · intro q
    by_cases e : y = 0
    · exact e
    · exact absurd (a.mpr (by omega)) (Int32.not_lt.mpr q)
  · intro q
    exact Int32.not_lt.mp (fun z => by have := a.mp z; omega)
theorem M_give {n Y hh e : Nat} {P : Nat → Nat → Nat} (F : Nat) (hY : Y ≤ 200) (hh30 : hh < n) (he0 : 0 < e) (he : e ≤ W12) (k : St → Option St) (B : Nat → Nat) (M0 : Nat) (BL : Nat) : ∀ m i (S : St) (q : Nat) (hs vs T : Nat → Nat) (L : Nat), IvP S n P → i ≤ n → n < i + m → TM S n T L → SK S P n Y q hs vs → q ≤ 29 * hh + (i - (hh + 1)) → (∀ x, x < n → T x + fb_sm (fun p => giv P n Y (hs p) (vs p) x) q = B x + fb_sm (fun j => if chd P Y hh j = true then giv P n Y j e x else 0) i) → L + fb_sm (fun p => lap P n Y (hs p) (vs p)) q = BL + fb_sm (fun j => if chd P Y hh j = true then lap P n Y j e else 0) i → mu hs q ≤ M0 + fb_sm (fun j => if chd P Y hh j = true then 2 ^ (30 - j) else 0) i → ∃ (S' : St) (q' : Nat) (hs' vs' T' : Nat → Nat) (L' : Nat), fX12_handOn_L149 F (nI Y) (nI hh) (lN e) k m (nI i) S = k S' ∧ Ch 99 S S' ∧ gC S' = gC S ∧ TM S' n T' L' ∧ SK S' P n Y q' hs' vs' ∧ (∀ x, x < n → T' x + fb_sm (fun p => giv P n Y (hs' p) (vs' p) x) q' = B x + fb_sm (fun j => if chd P Y hh j = true then giv P n Y j e x else 0) n) ∧ L' + fb_sm (fun p => lap P n Y (hs' p) (vs' p)) q' = BL + fb_sm (fun j => if chd P Y hh j = true then lap P n Y j e else 0) n ∧ mu hs' q' ≤ M0 + fb_sm (fun j => if chd P Y hh j = true then 2 ^ (30 - j) else 0) n := by
  have hW : W12 < 2 ^ 63 := by decide
  intro m
  induction m with
  | zero => intro i S q hs vs T L hP q1 q2; omega
  | succ m ih =>
    intro i S q hs vs T L hP q1 q2 hT hK hq hg hl hm
    have hn := hP.1
    by_cases en : i = n
    · subst en
      refine ⟨S, q, hs, vs, T, L, ?_, Ch.rf _ _, rfl, hT, hK, hg, hl, hm⟩
      simp only [fX12_handOn_L149, fX12_handOn_b149, hP.2.2.1]
      rw [if_pos (c_le (Nat.le_refl _) (by omega))]
    have hi : i < n := by omega
    have nz : ¬ (lg_cmp (lN e) 0) ≤ 0 := fun z => by have := (lg_le0 (by omega)).mp z; omega
    have hd : ∀ X, (cal (some (if chd P Y hh i = true then (1 : Int32) else 0)) fun b_13 => if b_13 = 0 then fX12_handOn_L149 F (nI Y) (nI hh) (lN e) k m (nI (i + 1)) S else X) = fX12_handOn_L149 F (nI Y) (nI hh) (lN e) k m (nI (i + 1)) S ∨ chd P Y hh i = true := fun X => by
      by_cases c : chd P Y hh i = true
      · exact Or.inr c
      · left; rw [cal_s, if_neg c, if_pos rfl]
    by_cases c : chd P Y hh i = true
    · have hlt := chd_lt hP.fam hi c
      obtain ⟨p0, p1, p2, p3, p4, p5, p6, p7, p8, p9, p10, x0, x1, x2⟩ := hP.2.2.2 i hi
      by_cases al : Y < P 1 i
      · obtain ⟨S1, e1⟩ : ∃ S1 : St, S1 = pB S 76 0 i (lN (T i) + lN e) := ⟨_, rfl⟩
        have ch1 : Ch 99 S S1 := by rw [e1]; exact (Ch.rf 99 S).pB _ _ _ _
        have st : fX12_handOn_L149 F (nI Y) (nI hh) (lN e) k (m + 1) (nI i) S = fX12_handOn_L149 F (nI Y) (nI hh) (lN e) k m (nI (i + 1)) S1 := by
          simp only [fX12_handOn_L149, fX12_handOn_b149, hP.2.2.1]
          rw [if_neg (c_nle hi (by omega)), if_neg nz, M_chd hP hi (by omega) hY, cal_s, if_pos c, if_neg (by decide), ix_nI (show i < 30 by omega) (by decide), gd_t, gd_t, gd_t, cl (show i < 2147483648 by omega), p7, if_pos (c_lt al (by omega)), bnd_e, hT.1 i hi, nI_a1, e1]
        have hT1 : TM S1 n (fun x => if x = i then T i + e else T x) L := by
          refine ⟨fun x hx => ?_, by rw [e1]; exact hT.2⟩
          dsimp only
          by_cases ex : x = i
          · subst ex; rw [e1, gB_ps, if_pos rfl, lN_add]
          · rw [e1, gB_pi _ _ _ _ _ _ ex, if_neg ex]; exact hT.1 x hx
        have hK1 : SK S1 P n Y q hs vs := by
          refine ⟨by rw [e1]; exact hK.1, fun p hp => ?_⟩
          obtain ⟨k1, k2, k3⟩ := hK.2 p hp
          exact ⟨by rw [e1]; exact k1, by rw [e1, gB_pc _ _ _ _ _ _ (by decide)]; exact k2, k3⟩
        obtain ⟨S', q', hs', vs', T', L', r1, r2, r3, r4⟩ := ih (i + 1) S1 q hs vs (fun x => if x = i then T i + e else T x) L (hP.ch ch1 (by decide)) (by omega) (by omega) hT1 hK1 (by omega) (fun x hx => by
          have g0 := hg x hx
          rw [fb_sm_succ, if_pos c, giv_a hi al]
          by_cases ex : x = i
          · subst ex; simp only [if_true]; omega
          · simp only [if_neg ex]; omega) (by rw [fb_sm_succ, if_pos c, lap_a hi al]; omega) (by rw [fb_sm_succ]; omega)
        exact ⟨S', q', hs', vs', T', L', st.trans r1, ch1.trans r2, r3.trans (by rw [e1]; rfl), r4⟩
      · have q9 : q < 900 := by omega
        obtain ⟨S1, e1⟩ : ∃ S1 : St, S1 = pI (pB (pA S 77 0 q (nI i)) 78 0 q (lN e)) 11 0 35 (nI (q + 1)) := ⟨_, rfl⟩
        have ch1 : Ch 99 S S1 := by
          rw [e1]
          exact Ch.pI (Ch.pB (Ch.pA (Ch.rf 99 S) _ (Or.inr rfl)) _ _ _ _) _ (Or.inr rfl)
        have st : fX12_handOn_L149 F (nI Y) (nI hh) (lN e) k (m + 1) (nI i) S = fX12_handOn_L149 F (nI Y) (nI hh) (lN e) k m (nI (i + 1)) S1 := by
          simp only [fX12_handOn_L149, fX12_handOn_b149, hP.2.2.1]
          rw [if_neg (c_nle hi (by omega)), if_neg nz, M_chd hP hi (by omega) hY, cal_s, if_pos c, if_neg (by decide), ix_nI (show i < 30 by omega) (by decide), gd_t, cl (show i < 2147483648 by omega), p7, if_neg (c_nlt (by omega) (by omega)), hK.1, ix_nI q9 (by decide), gd_t, bnd_e, cl (show q < 2147483648 by omega)]
          simp only [gI_pA, gI_pB, hK.1, ix_nI q9 (by decide), gd_t, bnd_e, cl (show q < 2147483648 by omega), nI_a1]
          rw [e1]
        have hT1 : TM S1 n T L := ⟨fun x hx => by rw [e1, gB_pI, gB_pc _ _ _ _ _ _ (by decide)]; exact hT.1 x hx, by rw [e1]; exact hT.2⟩
        have hK1 : SK S1 P n Y (q + 1) (fun p => if p = q then i else hs p) (fun p => if p = q then e else vs p) := by
          refine ⟨by rw [e1, gI_ps], fun p hp => ?_⟩
          dsimp only
          by_cases ep : p = q
          · subst ep
            refine ⟨by rw [e1, gA_pI, gA_pB, gA_ps, if_pos rfl], by rw [e1, gB_pI, gB_ps, if_pos rfl], ?_, ?_, ?_, ?_⟩
            · rw [if_pos rfl]; exact hi
            · rw [if_pos rfl]; omega
            · rw [if_pos rfl]; exact he
            · rw [if_pos rfl]; omega
          · obtain ⟨k1, k2, k3⟩ := hK.2 p (by omega)
            refine ⟨by rw [e1, gA_pI, gA_pB, gA_pi _ _ _ _ _ _ ep, if_neg ep]; exact k1, by rw [e1, gB_pI, gB_pi _ _ _ _ _ _ ep, gB_pA, if_neg ep]; exact k2, ?_⟩
            rw [if_neg ep, if_neg ep]; exact k3
        obtain ⟨S', q', hs', vs', T', L', r1, r2, r3, r4⟩ := ih (i + 1) S1 (q + 1) (fun p => if p = q then i else hs p) (fun p => if p = q then e else vs p) T L (hP.ch ch1 (by decide)) (by omega) (by omega) hT1 hK1 (by omega) (fun x hx => by
          have g0 := hg x hx
          rw [fb_sm_push (fun a b => giv P n Y a b x), fb_sm_succ, if_pos c]; omega) (by rw [fb_sm_push (fun a b => lap P n Y a b), fb_sm_succ, if_pos c]; omega) (by
          have hp := fb_sm_push (fun a _ => 2 ^ (30 - a)) hs vs q i e
          have hp2 : mu (fun p => if p = q then i else hs p) (q + 1) = mu hs q + 2 ^ (30 - i) := hp
          rw [hp2, fb_sm_succ, if_pos c]; omega)
        exact ⟨S', q', hs', vs', T', L', st.trans r1, ch1.trans r2, r3.trans (by rw [e1]; rfl), r4⟩
    · have st : fX12_handOn_L149 F (nI Y) (nI hh) (lN e) k (m + 1) (nI i) S = fX12_handOn_L149 F (nI Y) (nI hh) (lN e) k m (nI (i + 1)) S := by
        simp only [fX12_handOn_L149, fX12_handOn_b149, hP.2.2.1]
        rw [if_neg (c_nle hi (by omega)), if_neg nz, M_chd hP hi (by omega) hY, cal_s, if_neg c, if_pos rfl, nI_a1]
      rw [st]
      exact ih (i + 1) S q hs vs T L hP (by omega) (by omega) hT hK (by omega) (fun x hx => by rw [fb_sm_succ, if_neg c]; exact hg x hx) (by rw [fb_sm_succ, if_neg c]; exact hl) (by rw [fb_sm_succ, if_neg c]; exact hm)
