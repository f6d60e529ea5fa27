theorem C_inner {n Y v w sent : Nat} {P : Nat → Nat → Nat} (F : Nat) (hF : 100000 ≤ F) (hY : Y ≤ 200) (hw : w < n) (k : St → Option St) : ∀ f idx (S : St) (q : Nat) (hs vs ts T : Nat → Nat) (L : Nat) (es : Nat → Nat → Nat), IvP S n P → TC S n T L → PK S P n Y v q hs vs ts es → idx ≤ sent → sent ≤ q → sent < idx + f → (∀ i, sent ≤ i → i < q → w < hs i) → ∃ (S' : St) (q' : Nat) (hs' vs' ts' T' : Nat → Nat) (L' : Nat) (es' : Nat → Nat → Nat), fX1_inherit_L46 F (nI Y) (nI w) (nI sent) k f (nI idx) S = k S' ∧ Ch 99 S S' ∧ gC S ≤ gC S' ∧ TC S' n T' L' ∧ PK S' P n Y v q' hs' vs' ts' es' ∧ (∀ i, sent ≤ i → i < q' → w < hs' i) ∧ (∀ x, x < n → T' x + fb_sm (fun i => ts' i * fy (fun h z => giv P n Y h z x) w sent i (hs' i) (vs' i)) q' = T x + fb_sm (fun i => ts i * fy (fun h z => giv P n Y h z x) w idx i (hs i) (vs i)) q) ∧ L' + fb_sm (fun i => ts' i * fy (fun h z => lap P n Y h z) w sent i (hs' i) (vs' i)) q' = L + fb_sm (fun i => ts i * fy (fun h z => lap P n Y h z) w idx i (hs i) (vs i)) q := by
  intro f
  induction f with
  | zero => intro idx S q hs vs ts T L es hP hT hK q1 q2 q3; omega
  | succ f ih =>
    intro idx S q hs vs ts T L es hP hT hK q1 q2 q3 hh
    have hn := hP.1
    have hmx := hK.max hP.fam hn
    by_cases en : idx = sent
    · subst en
      refine ⟨S, q, hs, vs, ts, T, L, es, ?_, Ch.rf _ _, Nat.le_refl _, hT, hK, hh, fun x _ => rfl, rfl⟩
      simp only [fX1_inherit_L46, fX1_inherit_b46]
      rw [if_pos (c_le (Nat.le_refl _) (by omega))]
    have hi : idx < q := by omega
    obtain ⟨a1, a2, a3, a4, a5⟩ := hK.2.2.2.1 idx hi
    have gq := hK.2.1
    have gc := hK.2.2.1.2
    simp only [fX1_inherit_L46, fX1_inherit_b46]
    rw [if_neg (c_nle (show idx < sent by omega) (by omega)), ix_nI (show idx < gC S by omega) (by omega), gd_t, gd_t, gd_t, cl (show idx < 2147483648 by omega), a1, a2, a3, nI_a1]
    by_cases e : hs idx = w
    · obtain ⟨S1, q1', hs1, vs1, ts1, T1, L1, es1, r1, r2, r3, r4, r5, r6, r7, r8, r9, r10⟩ := C_arrive hP hT hK F hF hY hi e
      rw [if_pos (show nI (hs idx) = nI w by rw [e]), r1, cal_s]
      obtain ⟨S', q', hs', vs', ts', T', L', es', s1, s2, s3, s4, s5, s6, s7, s8⟩ := ih (idx + 1) S1 q1' hs1 vs1 ts1 T1 L1 es1 (hP.ch r2 (by decide)) r4 r5 (by omega) (by omega) (by omega) (fun i h1 h2 => by
        by_cases ei : i < q
        · rw [r7 i ei]; exact hh i h1 ei
        · exact r8 i (by omega) h2)
      exact ⟨S', q', hs', vs', ts', T', L', es', s1, r2.trans s2, by omega, s4, s5, s6, fun x hx => (s7 x hx).trans (r9 x hx), s8.trans r10⟩
    · rw [if_neg (c_ne e (by omega) (by omega))]
      obtain ⟨S', q', hs', vs', ts', T', L', es', s1, s2, s3, s4, s5, s6, s7, s8⟩ := ih (idx + 1) S q hs vs ts T L es hP hT hK (by omega) (by omega) (by omega) hh
      refine ⟨S', q', hs', vs', ts', T', L', es', s1, s2, s3, s4, s5, s6, fun x hx => ?_, ?_⟩
      · rw [s7 x hx, fy_step (fun h z => giv P n Y h z x) hi, if_neg e]; omega
      · rw [s8, fy_step (fun h z => lap P n Y h z) hi, if_neg e]; omega
theorem fy_next (g : Nat → Nat → Nat) {w s m : Nat} {hs vs ts : Nat → Nat} (h : ∀ i, s ≤ i → i < m → w < hs i) : fb_sm (fun i => ts i * fy g w s i (hs i) (vs i)) m = fb_sm (fun i => ts i * fy g (w + 1) 0 i (hs i) (vs i)) m := fb_sm_cong (fun i hi => by
  unfold fy
  by_cases q : w < hs i
  · rw [if_pos (Or.inl q), if_pos (by omega)]
  · rw [if_neg (fun z => by
      rcases z with z | z
      · exact q z
      · exact q (h i z.2 hi)), if_neg (by omega)])
theorem C_outer {n Y v : Nat} {P : Nat → Nat → Nat} (F : Nat) (hF : 100000 ≤ F) (hY : Y ≤ 200) : ∀ f w (S : St) (q : Nat) (hs vs ts T : Nat → Nat) (L : Nat) (es : Nat → Nat → Nat), IvP S n P → TC S n T L → PK S P n Y v q hs vs ts es → w ≤ n → n < w + f → ∃ (S' : St) (T' : Nat → Nat) (L' : Nat), fX1_inherit_L26 F (nI Y) f (nI w) S = some S' ∧ Ch 99 S S' ∧ gC S ≤ gC S' ∧ CapI S' ∧ TC S' n T' L' ∧ (∀ x, x < n → T' x = T x + fb_sm (fun i => ts i * fy (fun h z => giv P n Y h z x) w 0 i (hs i) (vs i)) q) ∧ L' = L + fb_sm (fun i => ts i * fy (fun h z => lap P n Y h z) w 0 i (hs i) (vs i)) q := by
  intro f
  induction f with
  | zero => intro w S q hs vs ts T L es hP hT hK q1 q2; omega
  | succ f ih =>
    intro w S q hs vs ts T L es hP hT hK q1 q2
    have hn := hP.1
    have hmx := hK.max hP.fam hn
    by_cases en : w = n
    · subst en
      have z : ∀ g : Nat → Nat → Nat, fb_sm (fun i => ts i * fy g w 0 i (hs i) (vs i)) q = 0 := fun g => sm_0 (fun i hi => by
        have := (hK.2.2.2.1 i hi).2.2.2.1
        unfold fy; rw [if_neg (by omega), Nat.mul_zero])
      refine ⟨S, T, L, ?_, Ch.rf _ _, Nat.le_refl _, hK.2.2.1, hT, fun x _ => ?_, ?_⟩
      · simp only [fX1_inherit_L26, fX1_inherit_b26, hP.2.1]
        rw [if_pos (c_le (Nat.le_refl _) (by omega))]
      · rw [z]; rfl
      · rw [z]; rfl
    have hw : w < n := by omega
    obtain ⟨S1, q1', hs1, vs1, ts1, T1, L1, es1, r1, r2, r3, r4, r5, r6, r7, r8⟩ := C_inner (sent := q) (w := w) F hF hY hw (fun S_6 => fX1_inherit_L26 F (nI Y) f (nI w + 1) S_6) F 0 S q hs vs ts T L es hP hT hK (Nat.zero_le _) (Nat.le_refl _) (by omega) (fun i a b => by omega)
    obtain ⟨S', T', L', s1, s2, s3, s4, s5, s6, s7⟩ := ih (w + 1) S1 q1' hs1 vs1 ts1 T1 L1 es1 (hP.ch r2 (by decide)) r4 r5 (by omega) (by omega)
    refine ⟨S', T', L', ?_, r2.trans s2, by omega, s4, s5, fun x hx => ?_, ?_⟩
    · simp only [fX1_inherit_L26, fX1_inherit_b26, hP.2.1]
      rw [if_neg (c_nle hw (by omega)), bnd_e, hK.1]
      refine Eq.trans r1 ?_
      rw [nI_a1]; exact s1
    · rw [s6 x hx, ← r7 x hx, fy_next _ r6]
    · rw [s7, ← r8, fy_next _ r6]
theorem C_inherit {S : St} {n Y i : Nat} {P : Nat → Nat → Nat} {q : (Nat → Nat) × Nat} (hP : IvP S n P) (F : Nat) (hF : 100000 ≤ F) (hY : Y ≤ 200) (hi : i < n) (hT : TC S n q.1 q.2) (hw : q.1 i ≤ W12) (hc : CapI S) : ∃ S', fX1_inherit F S (nI i) (nI Y) = some S' ∧ Ch 99 S S' ∧ gC S ≤ gC S' ∧ CapI S' ∧ TC S' n (hnd P n Y i q).1 (hnd P n Y i q).2 := by
  have hn := hP.1
  obtain ⟨S1, e1⟩ : ∃ S1 : St, S1 = pI S 1 0 6 (nI 0) := ⟨_, rfl⟩
  have ch1 : Ch 99 S S1 := by rw [e1]; exact Ch.pI (Ch.rf 99 S) _ (Or.inr rfl)
  have hK1 : PK S1 P n Y (q.1 i) 0 (fun _ => 0) (fun _ => 0) (fun _ => 0) (fun _ _ => 0) := by
    rw [e1]
    exact ⟨gI_ps _ _ _ _ _, Nat.zero_le _, hc, fun i hi => by omega, fun i j hi hj => by omega, fun i hi => by omega⟩
  obtain ⟨S2, m2, hs2, vs2, ts2, es2, r1, r2, r3, r4, r5, r6, r7, r8, r9, r10⟩ := C_send (w := i) (y := q.1 i) (t := 1) (e := fun _ => 0) hK1 hP.fam hn F hF hi hw (fun z => by omega) (fun k => Nat.zero_le _) (by rw [vl_0, Nat.div_one])
  obtain ⟨S3, e3⟩ : ∃ S3 : St, S3 = pB S2 18 0 i 0 := ⟨_, rfl⟩
  have ch3 : Ch 99 S S3 := by rw [e3]; exact (ch1.trans r2).pB _ _ _ _
  have hP3 : IvP S3 n P := hP.ch ch3 (by decide)
  have hT3 : TC S3 n (fun x => if x = i then 0 else q.1 x) q.2 := by
    refine ⟨fun x hx => ?_, ?_⟩
    · dsimp only
      by_cases ex : x = i
      · subst ex; rw [e3, gB_ps, if_pos rfl]; rfl
      · rw [e3, gB_pi _ _ _ _ _ _ ex, if_neg ex, r5, e1]; exact hT.1 x hx
    · rw [e3, gJ_pB, r6, e1]; exact hT.2
  have hK3 : PK S3 P n Y (q.1 i) m2 hs2 vs2 ts2 es2 := by
    obtain ⟨a1, a2, a3, a4, a5, a6⟩ := r4
    rw [e3]
    refine ⟨a1, a2, a3, fun j hj => ?_, a5, a6⟩
    obtain ⟨b1, b2, b3, b4⟩ := a4 j hj
    exact ⟨b1, (gB_pc _ _ _ _ _ _ (by decide)).trans b2, (gB_pc _ _ _ _ _ _ (by decide)).trans b3, b4⟩
  obtain ⟨S', T', L', s1, s2, s3, s4, s5, s6, s7⟩ := C_outer F hF hY F i S3 m2 hs2 vs2 ts2 _ _ es2 hP3 hT3 hK3 (by omega) (by omega)
  have sm : ∀ g : Nat → Nat → Nat, fb_sm (fun k => ts2 k * fy g i 0 k (hs2 k) (vs2 k)) m2 = g i (q.1 i) := fun g => by
    rw [r10 (fy g i 0) (fun a b => by unfold fy; rw [if_pos (by omega), if_pos (by omega)])]
    have : fy g i 0 0 i (q.1 i) = g i (q.1 i) := if_pos (by omega)
    rw [this]
    simp [fb_sm]
  refine ⟨S', ?_, ch3.trans s2, ?_, s4, ⟨fun x hx => ?_, ?_⟩⟩
  · unfold fX1_inherit
    rw [bnd_e, show pI S 1 0 6 0 = S1 by rw [e1]; rfl, ix_nI (show i < 30 by omega) (by decide), gd_t, cl (show i < 2147483648 by omega), show gB S1 18 0 i = lN (q.1 i) by rw [e1]; exact hT.1 i hi, show (1 : Int64) = lN 1 from rfl, r1, cal_s, gd_t, bnd_e, ← e3]
    exact s1
  · have g1 : gC S1 = gC S := by rw [e1]; rfl
    have g3 : gC S3 = gC S2 := by rw [e3]; rfl
    omega
  · rw [s5.1 x hx, s6 x hx, sm]; rfl
  · rw [s5.2, s7, sm]; rfl
theorem C_year_L {n Y : Nat} {P : Nat → Nat → Nat} {q : (Nat → Nat) × Nat} (F : Nat) (hF : 100000 ≤ F) (hY : Y ≤ 200) (hq : tot n q = W12) : ∀ m i (S : St), i ≤ n → n < i + m → IvP S n P → CapI S → TC S n (yst P n Y i q).1 (yst P n Y i q).2 → ∃ S', fX1_pass_L2 F (nI Y) m (nI i) S = some S' ∧ Ch 99 S S' ∧ gC S ≤ gC S' ∧ CapI S' ∧ TC S' n (yst P n Y n q).1 (yst P n Y n q).2 := by
  have hW : W12 < 2 ^ 63 := by decide
  intro m
  induction m with
  | zero => intro i S q1 q2; omega
  | succ m ih =>
    intro i S q1 q2 hP hc hT
    have hn := hP.1
    by_cases en : i = n
    · subst en
      refine ⟨S, ?_, Ch.rf _ _, Nat.le_refl _, hc, hT⟩
      simp only [fX1_pass_L2, fX1_pass_b2, hP.2.1]
      rw [if_pos (c_le (Nat.le_refl _) (by omega))]
    have hi : i < n := by omega
    have hx := P1_lt hP hi
    obtain ⟨p0, p1, p2, p3, p4, p5, p6, p7, p8, p9, p10, x0, x1, x2⟩ := hP.2.2.2 i hi
    have hti : (yst P n Y i q).1 i ≤ W12 := by rw [← hq, ← yst_tot (Y := Y) (q := q) hP.fam i q1]; exact tot_le hi
    have hl := lg_le0 (y := (yst P n Y i q).1 i) (by omega)
    simp only [fX1_pass_L2, fX1_pass_b2, hP.2.1]
    rw [if_neg (c_nle hi (by omega)), ix_nI (show i < 30 by omega) (by decide), gd_t, gd_t, cl (show i < 2147483648 by omega), p1, hT.1 i hi, nI_a1]
    by_cases c : P 1 i = Y ∧ 0 < (yst P n Y i q).1 i
    · rw [if_pos (show nI (P 1 i) = nI Y by rw [c.1]), if_neg (fun z => by have := hl.mp z; omega)]
      obtain ⟨S1, r1, r2, r3, r3c, r4⟩ := C_inherit hP F hF hY hi hT hti hc
      have e : yst P n Y (i + 1) q = hnd P n Y i (yst P n Y i q) := by rw [yst, if_pos c]
      rw [← e] at r4
      obtain ⟨S', s1, s2, s3, s4⟩ := ih (i + 1) S1 (by omega) (by omega) (hP.ch r2 (by decide)) r3c r4
      exact ⟨S', by rw [r1, cal_s]; exact s1, r2.trans s2, by omega, s4⟩
    · have e : yst P n Y (i + 1) q = yst P n Y i q := by rw [yst, if_neg c]
      rw [← e] at hT
      obtain ⟨S', s1, s2, s3, s4⟩ := ih (i + 1) S (by omega) (by omega) hP hc hT
      refine ⟨S', ?_, s2, s3, s4⟩
      by_cases c1 : P 1 i = Y
      · rw [if_pos (show nI (P 1 i) = nI Y by rw [c1]), if_pos (hl.mpr (by omega))]; exact s1
      · rw [if_neg (c_ne c1 (by omega) (by omega))]; exact s1
theorem C_year {S : St} {n Y : Nat} {P : Nat → Nat → Nat} {q : (Nat → Nat) × Nat} (hP : IvP S n P) (F : Nat) (hF : 100000 ≤ F) (hY : Y ≤ 200) (hq : tot n q = W12) (hc : CapI S) (hT : TC S n q.1 q.2) : ∃ S', fX1_pass F S (nI Y) = some S' ∧ Ch 99 S S' ∧ gC S ≤ gC S' ∧ CapI S' ∧ TC S' n (yst P n Y n q).1 (yst P n Y n q).2 := C_year_L F hF hY hq F 0 S (by omega) (by have := hP.1; omega) hP hc hT
