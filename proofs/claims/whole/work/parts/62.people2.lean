/-- what the walk over the kins leaves: only the row of kind 39 -/
def Off39 (S S' : St) : Prop := (∀ c n j, c ≠ 39 → gA S' c n j = gA S c n j) ∧ gI S' = gI S ∧ gC S' = gC S
theorem L_addF {n : Nat} {fo pa pb : Nat → Nat} (hn : n ≤ 30) (F kin : Nat) (hpa : ∀ i, i < n → pa i ≤ i ∧ pb i ≤ i) (hfo : ∀ i, i < n → fo i < 1024) : ∀ m i (c : Int32) (S : St) (K : Nat → Nat), i ≤ n → n < i + m → gI S 6 0 6 = nI n → (∀ j, j < n → gA S 36 0 j = nI (pa j) - 1 ∧ gA S 37 0 j = nI (pb j) - 1 ∧ gA S 38 0 j = nI (fo j)) → (∀ j, j < i → gA S 39 0 j = nI (K j) ∧ K j < 1024 ∧ K j = fo j ||| (if pa j = 0 then 0 else K (pa j - 1)) ||| (if pb j = 0 then 0 else K (pb j - 1))) → ∃ (c' : Int32) (S' : St) (K' : Nat → Nat), fX7_addFounder_L17 F (nI kin) m c (nI i) S = some (c', S') ∧ Off39 S S' ∧ (∀ j, j < n → gA S' 39 0 j = nI (K' j) ∧ K' j < 1024 ∧ K' j = fo j ||| (if pa j = 0 then 0 else K' (pa j - 1)) ||| (if pb j = 0 then 0 else K' (pb j - 1))) ∧ ∀ T : St, gI T 11 0 6 = nI n → (∀ j, j < n → gA T 62 0 j = nI (fo j)) → fX12_founder_L50 F T (nI kin) m c (nI i) = some (c', T) := by
  intro m
  induction m with
  | zero => intro i c S K q1 q2; omega
  | succ m ih =>
    intro i c S K q1 q2 h1 h2 h3
    by_cases e : i = n
    · subst e
      have hle := c_le (Nat.le_refl i) (show i < 2147483648 by omega)
      refine ⟨c, S, K, ?_, ⟨fun _ _ _ _ => rfl, rfl, rfl⟩, h3, fun T t1 t2 => ?_⟩
      · simp only [fX7_addFounder_L17, fX7_addFounder_b17, h1, if_pos hle]
      · simp only [fX12_founder_L50, fX12_founder_b50, t1, if_pos hle]
    · have hle := c_nle (show i < n by omega) (show n < 2147483648 by omega)
      obtain ⟨a1, a2, a3⟩ := h2 i (by omega)
      obtain ⟨b1, b2⟩ := hpa i (by omega)
      have i1 := ix_nI (show i < 30 by omega) (by decide)
      have hin := inh_s (S := S) (n := n) (i := i) (kn := K) h1 hn (by omega) a1 a2 (by omega) (by omega) (fun q => (h3 (pa i - 1) (by omega)).1) (fun q => (h3 (pb i - 1) (by omega)).1)
      have hil : inhv K (pa i) (pb i) < 1024 := inhv_lt (fun q => (h3 (pa i - 1) (by omega)).2.1) (fun q => (h3 (pb i - 1) (by omega)).2.1)
      obtain ⟨S1, e1⟩ : ∃ S1 : St, S1 = pA S 39 0 i (nI (fo i ||| inhv K (pa i) (pb i))) := ⟨_, rfl⟩
      have g38 : gA S1 38 0 i = nI (fo i) := by rw [e1]; simp (disch := omega) only [gA_ps, gA_pe, gA_pc, gA_pi, gA_pn, gI_ps, gI_pc, gI_pk, gI_pn, gB_ps, gB_pc, gB_pi, gJ_ps, gJ_pc, gA_pI, gA_pB, gA_pJ, gI_pA, gI_pB, gI_pJ, gB_pI, gB_pA, gB_pJ, gJ_pI, gJ_pA, gJ_pB]; exact a3
      have hst : ∀ d : Int32, ∃ (c' : Int32) (S' : St) (K' : Nat → Nat), fX7_addFounder_L17 F (nI kin) m d (nI (i + 1)) S1 = some (c', S') ∧ Off39 S1 S' ∧ (∀ j, j < n → gA S' 39 0 j = nI (K' j) ∧ K' j < 1024 ∧ K' j = fo j ||| (if pa j = 0 then 0 else K' (pa j - 1)) ||| (if pb j = 0 then 0 else K' (pb j - 1))) ∧ ∀ T : St, gI T 11 0 6 = nI n → (∀ j, j < n → gA T 62 0 j = nI (fo j)) → fX12_founder_L50 F T (nI kin) m d (nI (i + 1)) = some (c', T) := by
        intro d
        refine ih (i + 1) d S1 (fun j => if j = i then fo i ||| inhv K (pa i) (pb i) else K j) (by omega) (by omega) (by rw [e1]; simp (disch := omega) only [gA_ps, gA_pe, gA_pc, gA_pi, gA_pn, gI_ps, gI_pc, gI_pk, gI_pn, gB_ps, gB_pc, gB_pi, gJ_ps, gJ_pc, gA_pI, gA_pB, gA_pJ, gI_pA, gI_pB, gI_pJ, gB_pI, gB_pA, gB_pJ, gJ_pI, gJ_pA, gJ_pB]; exact h1) (fun j hj => ?_) (fun j hj => ?_)
        · rw [e1]; simp (disch := omega) only [gA_ps, gA_pe, gA_pc, gA_pi, gA_pn, gI_ps, gI_pc, gI_pk, gI_pn, gB_ps, gB_pc, gB_pi, gJ_ps, gJ_pc, gA_pI, gA_pB, gA_pJ, gI_pA, gI_pB, gI_pJ, gB_pI, gB_pA, gB_pJ, gJ_pI, gJ_pA, gJ_pB]; exact h2 j hj
        · by_cases ej : j = i
          · subst ej
            have p1 : ∀ k : Nat, k ≤ j → (if k = 0 then 0 else (if k - 1 = j then fo j ||| inhv K (pa j) (pb j) else K (k - 1))) = if k = 0 then 0 else K (k - 1) := by
              intro k hk
              by_cases ek : k = 0
              · rw [if_pos ek, if_pos ek]
              · rw [if_neg ek, if_neg ek, if_neg (by omega)]
            refine ⟨by rw [e1]; simp (disch := omega) only [gA_ps, gA_pe, gA_pc, gA_pi, gA_pn, gI_ps, gI_pc, gI_pk, gI_pn, gB_ps, gB_pc, gB_pi, gJ_ps, gJ_pc, gA_pI, gA_pB, gA_pJ, gI_pA, gI_pB, gI_pJ, gB_pI, gB_pA, gB_pJ, gJ_pI, gJ_pA, gJ_pB, if_true], ?_, ?_⟩
            · simp only [if_true]; exact lt1024 (hfo j (by omega)) hil
            · simp only [if_true]
              rw [p1 _ b1, p1 _ b2, Nat.or_assoc]
              rfl
          · obtain ⟨k1, k2, k3⟩ := h3 j (by omega)
            obtain ⟨b3, b4⟩ := hpa j (by omega)
            have p1 : ∀ k : Nat, k ≤ j → (if k = 0 then 0 else (if k - 1 = i then fo i ||| inhv K (pa i) (pb i) else K (k - 1))) = if k = 0 then 0 else K (k - 1) := by
              intro k hk
              by_cases ek : k = 0
              · rw [if_pos ek, if_pos ek]
              · rw [if_neg ek, if_neg ek, if_neg (by omega)]
            refine ⟨by rw [e1]; simp (disch := omega) only [gA_ps, gA_pe, gA_pc, gA_pi, gA_pn, gI_ps, gI_pc, gI_pk, gI_pn, gB_ps, gB_pc, gB_pi, gJ_ps, gJ_pc, gA_pI, gA_pB, gA_pJ, gI_pA, gI_pB, gI_pJ, gB_pI, gB_pA, gB_pJ, gJ_pI, gJ_pA, gJ_pB, if_neg ej]; exact k1, ?_, ?_⟩
            · simp only [if_neg ej]; exact k2
            · simp only [if_neg ej]
              rw [p1 _ b3, p1 _ b4]
              exact k3
      have ht : ∀ (c' : Int32) (S' : St), Off39 S1 S' → Off39 S S' := by
        intro c' S' o
        refine ⟨fun c n j hc => ?_, o.2.1.trans (by rw [e1]; rfl), o.2.2.trans (by rw [e1]; rfl)⟩
        rw [o.1 c n j hc, e1, gA_pc _ _ _ _ _ _ hc]
      have hz := hb_01 (nI (fo i)) (nI kin)
      have hcl : ∀ o, (fX7_addFounder_L17 F (nI kin) m (if hb (nI (fo i)) (nI kin) = 0 then c else c + 1) (nI (i + 1)) S1 = some o) → fX7_addFounder_L17 F (nI kin) (m + 1) c (nI i) S = some o := by
        intro o ho
        rw [← ho]
        simp only [fX7_addFounder_L17, fX7_addFounder_b17, h1, if_neg hle, i1, gd_t, hin, cal_s, bnd_e, cl (show i < 2147483648 by omega), a3, fa_or, ← e1, fX7_isFounder, g38, hb_c, isB_hb, nI_a1]
        rcases hz with hz | hz
        · simp only [hz, if_true]
        · simp only [hz, if_neg (show ¬ ((1 : Int32) = 0) by decide)]
      obtain ⟨c', S', K', r1, r2, r3, r4⟩ := hst (if hb (nI (fo i)) (nI kin) = 0 then c else c + 1)
      refine ⟨c', S', K', hcl _ r1, ht c' S' r2, r3, fun T t1 t2 => ?_⟩
      rw [← r4 T t1 t2]
      simp only [fX12_founder_L50, fX12_founder_b50, t1, if_neg hle, i1, gd_t, cal_s, bnd_e, cl (show i < 2147483648 by omega), t2 i (by omega), hb_m, nI_a1, Int32.add_zero]
      rcases hz with hz | hz
      · simp only [hz, if_true]
      · simp only [hz, if_neg (show ¬ ((1 : Int32) = 0) by decide)]
theorem Q_founder {S : St} {n : Nat} {P : Nat → Nat → Nat} (h : IvP S n P) (F : Nat) (hF : 1000 ≤ F) (p1 p2 : Int32) :
    ∃ (r : Int32) (S1 S2 : St) (P2 : Nat → Nat → Nat), fX11_founder F S p1 p2 = some (r, S1) ∧ fX12_founder F S1 p1 p2 = some (r, S2) ∧ IvP S2 n P2 ∧ Ch 2 S S2 ∧ gC S1 = gC S ∧ gC S2 = gC S := by
  have hne : ¬ (1 : Int32) = 0 := by decide
  obtain ⟨h0, h1, h2, h3⟩ := id h
  have bad : ∀ r : Int32, fX11_founder F S p1 p2 = some (r, S) → fX12_founder F S p1 p2 = some (r, S) → ∃ (r : Int32) (S1 S2 : St) (P2 : Nat → Nat → Nat), fX11_founder F S p1 p2 = some (r, S1) ∧ fX12_founder F S1 p1 p2 = some (r, S2) ∧ IvP S2 n P2 ∧ Ch 2 S S2 ∧ gC S1 = gC S ∧ gC S2 = gC S := fun r a b => ⟨r, S, S, P, a, b, h, Ch.rf 2 S, rfl, rfl⟩
  rcases a_person p1 n h0 with ⟨c1, m1⟩ | ⟨a1, rfl, u1, c1, m1⟩
  · exact bad (-1) (by simp only [fX11_founder, c1 S h1, cal_s]; rfl) (by simp only [fX12_founder, m1 S h2, cal_s]; rfl)
  rcases a_kin p2 with ⟨c2, m2⟩ | ⟨a2, rfl, u2, c2, m2⟩
  · exact bad (-1) (by simp only [fX11_founder, c1 S h1, c2, cal_s, if_neg hne]; rfl) (by simp only [fX12_founder, m1 S h2, m2, cal_s, if_neg hne]; rfl)
  have i1 := ix_nI (show a1 < 30 by omega) (by decide)
  have hcl := cl (show a1 < 2147483648 by omega)
  obtain ⟨q0, q1, q2, q3, q4, q5, q6, q7, q8, q9, q10, x0, x1, x2, x3, x4, x5, x6⟩ := h3 a1 u1
  rcases hb_01 (nI (P 4 a1)) (nI a2) with hz | hz
  · obtain ⟨S0, e0⟩ : ∃ S0 : St, S0 = pA S 38 0 a1 (nI (P 4 a1 ||| 2 ^ a2)) := ⟨_, rfl⟩
    have hp2 : 2 ^ a2 < 1024 := by
      have : 2 ^ a2 ≤ 2 ^ 9 := Nat.pow_le_pow_right (by decide) (by omega)
      omega
    have hfo : ∀ i, i < n → (if i = a1 then P 4 a1 ||| 2 ^ a2 else P 4 i) < 1024 := by
      intro i hi
      by_cases e : i = a1
      · rw [if_pos e]; exact lt1024 x4 hp2
      · rw [if_neg e]; exact (h3 i hi).2.2.2.2.2.2.2.2.2.2.2.2.2.2.2.1
    have hpa : ∀ i, i < n → P 2 i ≤ i ∧ P 3 i ≤ i := fun i hi => ⟨(h3 i hi).2.2.2.2.2.2.2.2.2.2.2.2.2.1, (h3 i hi).2.2.2.2.2.2.2.2.2.2.2.2.2.2.1⟩
    obtain ⟨r, S1, K, r1, r2, r3, r4⟩ := L_addF (n := n) (fo := fun i => if i = a1 then P 4 a1 ||| 2 ^ a2 else P 4 i) (pa := P 2) (pb := P 3) h0 F a2 hpa hfo F 0 0 S0 (fun _ => 0) (by omega) (by omega) (by rw [e0]; simp (disch := omega) only [gA_ps, gA_pe, gA_pc, gA_pi, gA_pn, gI_ps, gI_pc, gI_pk, gI_pn, gB_ps, gB_pc, gB_pi, gJ_ps, gJ_pc, gA_pI, gA_pB, gA_pJ, gI_pA, gI_pB, gI_pJ, gB_pI, gB_pA, gB_pJ, gJ_pI, gJ_pA, gJ_pB]; exact h1) (fun j hj => by
      obtain ⟨z0, z1, z2, z3, z4, -⟩ := h3 j hj
      rw [e0]
      by_cases e : j = a1
      · subst e; simp (disch := omega) only [gA_ps, gA_pe, gA_pc, gA_pi, gA_pn, gI_ps, gI_pc, gI_pk, gI_pn, gB_ps, gB_pc, gB_pi, gJ_ps, gJ_pc, gA_pI, gA_pB, gA_pJ, gI_pA, gI_pB, gI_pJ, gB_pI, gB_pA, gB_pJ, gJ_pI, gJ_pA, gJ_pB, if_true]; exact ⟨z2, z3, trivial⟩
      · simp (disch := omega) only [gA_ps, gA_pe, gA_pc, gA_pi, gA_pn, gI_ps, gI_pc, gI_pk, gI_pn, gB_ps, gB_pc, gB_pi, gJ_ps, gJ_pc, gA_pI, gA_pB, gA_pJ, gI_pA, gI_pB, gI_pJ, gB_pI, gB_pA, gB_pJ, gJ_pI, gJ_pA, gJ_pB, if_neg e]; exact ⟨z2, z3, z4⟩) (fun j hj => by omega)
    have r1 : fX7_addFounder_L17 F (nI a2) F 0 0 S0 = some (r, S1) := r1
    have hc1 : fX11_founder F S (nI a1) (nI a2) = some (r, S1) := by
      simp only [fX11_founder, c1 S h1, c2, cal_s, if_neg hne, fX7_isFounder, i1, gd_t, hcl, q4, hb_c, hz, isB0, if_true, fX7_addFounder, bnd_e, shl1 (show a2 < 31 by omega), fa_or, ← e0, r1]
    have o := r2
    have gM : ∀ c nn j, c ≠ 39 → c ≠ 38 → gA S1 c nn j = gA S c nn j := by
      intro c nn j k1 k2
      rw [o.1 c nn j k1, e0, gA_pc _ _ _ _ _ _ k2]
    have gI1 : gI S1 = gI S := o.2.1.trans (by rw [e0]; rfl)
    obtain ⟨S2, e2⟩ : ∃ S2 : St, S2 = pA S1 62 0 a1 (nI (P 4 a1 ||| 2 ^ a2)) := ⟨_, rfl⟩
    have r4 := r4 S2 (by rw [e2]; show gI S1 11 0 6 = nI n; rw [gI1]; exact h2) (fun j hj => by
      rw [e2]
      by_cases e : j = a1
      · subst e; simp (disch := omega) only [gA_ps, gA_pe, gA_pc, gA_pi, gA_pn, gI_ps, gI_pc, gI_pk, gI_pn, gB_ps, gB_pc, gB_pi, gJ_ps, gJ_pc, gA_pI, gA_pB, gA_pJ, gI_pA, gI_pB, gI_pJ, gB_pI, gB_pA, gB_pJ, gJ_pI, gJ_pA, gJ_pB, if_true]
      · simp (disch := omega) only [gA_ps, gA_pe, gA_pc, gA_pi, gA_pn, gI_ps, gI_pc, gI_pk, gI_pn, gB_ps, gB_pc, gB_pi, gJ_ps, gJ_pc, gA_pI, gA_pB, gA_pJ, gI_pA, gI_pB, gI_pJ, gB_pI, gB_pA, gB_pJ, gJ_pI, gJ_pA, gJ_pB, if_neg e]; rw [gM 62 0 j (by decide) (by decide)]; exact (h3 j hj).2.2.2.2.2.2.2.2.2.2.1)
    have r4 : fX12_founder_L50 F S2 (nI a2) F 0 0 = some (r, S2) := r4
    have hm : fX12_founder F S1 (nI a1) (nI a2) = some (r, S2) := by
      simp only [fX12_founder, m1 S1 (by rw [gI1]; exact h2), m2, cal_s, if_neg hne, i1, gd_t, hcl, gM 62 0 a1 (by decide) (by decide), q10, hb_m, hz, if_true, bnd_e, shl1 (show a2 < 31 by omega), fa_or, ← e2, r4]
    refine ⟨r, S1, S2, fun f i => if f = 5 then K i else if f = 4 then (if i = a1 then P 4 a1 ||| 2 ^ a2 else P 4 i) else P f i, hc1, hm, ?_, ?_, o.2.2.trans (by rw [e0]; rfl), by rw [e2]; exact o.2.2.trans (by rw [e0]; rfl)⟩
    · refine ⟨h0, by rw [e2]; show gI S1 6 0 6 = nI n; rw [gI1]; exact h1, by rw [e2]; show gI S1 11 0 6 = nI n; rw [gI1]; exact h2, fun i hi => ?_⟩
      obtain ⟨z0, z1, z2, z3, z4, z5, z6, z7, z8, z9, z10, y0, y1, y2, y3, y4, y5, y6⟩ := h3 i hi
      obtain ⟨k1, k2, k3⟩ := r3 i hi
      have g38 : gA S1 38 0 i = nI (if i = a1 then P 4 a1 ||| 2 ^ a2 else P 4 i) := by
        rw [o.1 38 0 i (by decide), e0]
        by_cases e : i = a1
        · subst e; simp (disch := omega) only [gA_ps, gA_pe, gA_pc, gA_pi, gA_pn, gI_ps, gI_pc, gI_pk, gI_pn, gB_ps, gB_pc, gB_pi, gJ_ps, gJ_pc, gA_pI, gA_pB, gA_pJ, gI_pA, gI_pB, gI_pJ, gB_pI, gB_pA, gB_pJ, gJ_pI, gJ_pA, gJ_pB, if_true]
        · simp (disch := omega) only [gA_ps, gA_pe, gA_pc, gA_pi, gA_pn, gI_ps, gI_pc, gI_pk, gI_pn, gB_ps, gB_pc, gB_pi, gJ_ps, gJ_pc, gA_pI, gA_pB, gA_pJ, gI_pA, gI_pB, gI_pJ, gB_pI, gB_pA, gB_pJ, gJ_pI, gJ_pA, gJ_pB, if_neg e]; exact z4
      have g62 : gA S2 62 0 i = nI (if i = a1 then P 4 a1 ||| 2 ^ a2 else P 4 i) := by
        rw [e2]
        by_cases e : i = a1
        · subst e; simp (disch := omega) only [gA_ps, gA_pe, gA_pc, gA_pi, gA_pn, gI_ps, gI_pc, gI_pk, gI_pn, gB_ps, gB_pc, gB_pi, gJ_ps, gJ_pc, gA_pI, gA_pB, gA_pJ, gI_pA, gI_pB, gI_pJ, gB_pI, gB_pA, gB_pJ, gJ_pI, gJ_pA, gJ_pB, if_true]
        · simp (disch := omega) only [gA_ps, gA_pe, gA_pc, gA_pi, gA_pn, gI_ps, gI_pc, gI_pk, gI_pn, gB_ps, gB_pc, gB_pi, gJ_ps, gJ_pc, gA_pI, gA_pB, gA_pJ, gI_pA, gI_pB, gI_pJ, gB_pI, gB_pA, gB_pJ, gJ_pI, gJ_pA, gJ_pB, if_neg e]; rw [gM 62 0 i (by decide) (by decide)]; exact z10
      have gS : ∀ c nn j, c ≠ 62 → gA S2 c nn j = gA S1 c nn j := fun c nn j k => by rw [e2, gA_pc _ _ _ _ _ _ k]
      simp only [if_true, if_neg (show ¬ ((0 : Nat) = 5) by decide), if_neg (show ¬ ((0 : Nat) = 4) by decide), if_neg (show ¬ ((1 : Nat) = 5) by decide), if_neg (show ¬ ((1 : Nat) = 4) by decide), if_neg (show ¬ ((2 : Nat) = 5) by decide), if_neg (show ¬ ((2 : Nat) = 4) by decide), if_neg (show ¬ ((3 : Nat) = 5) by decide), if_neg (show ¬ ((3 : Nat) = 4) by decide), if_neg (show ¬ ((4 : Nat) = 5) by decide)]
      refine ⟨?_, ?_, ?_, ?_, ?_, ?_, ?_, ?_, ?_, ?_, g62, y0, y1, y2, y3, hfo i hi, k2, k3⟩
      · rw [gS 34 0 i (by decide), gM 34 0 i (by decide) (by decide)]; exact z0
      · rw [gS 35 0 i (by decide), gM 35 0 i (by decide) (by decide)]; exact z1
      · rw [gS 36 0 i (by decide), gM 36 0 i (by decide) (by decide)]; exact z2
      · rw [gS 37 0 i (by decide), gM 37 0 i (by decide) (by decide)]; exact z3
      · rw [gS 38 0 i (by decide)]; exact g38
      · rw [gS 39 0 i (by decide)]; exact k1
      · rw [gS 59 0 i (by decide), gM 59 0 i (by decide) (by decide)]; exact z6
      · rw [gS 61 0 i (by decide), gM 61 0 i (by decide) (by decide)]; exact z7
      · rw [gS 60 0 (2 * i) (by decide), gM 60 0 (2 * i) (by decide) (by decide)]; exact z8
      · rw [gS 60 0 (2 * i + 1) (by decide), gM 60 0 (2 * i + 1) (by decide) (by decide)]; exact z9
    · refine ⟨fun c nn j k1 k2 => ?_, fun c nn j k1 k2 => ?_⟩
      · rw [e2]; show gI S1 c nn j = gI S c nn j; rw [gI1]
      · have c39 : c ≠ 39 := fun q => k1 (by rw [q]; rfl)
        have c38 : c ≠ 38 := fun q => k1 (by rw [q]; rfl)
        have c62 : c ≠ 62 := fun q => k1 (by rw [q]; rfl)
        rw [e2, gA_pc _ _ _ _ _ _ c62]
        exact gM c nn j c39 c38
  · refine bad (-2) ?_ ?_
    · simp only [fX11_founder, c1 S h1, c2, cal_s, if_neg hne, fX7_isFounder, i1, gd_t, hcl, q4, hb_c, hz, isB1]
    · simp only [fX12_founder, m1 S h2, m2, cal_s, if_neg hne, i1, gd_t, hcl, q10, hb_m, hz]
