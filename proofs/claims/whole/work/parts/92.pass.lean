/-- what is still on its way: to heirs from w on -/
def fz (g : Nat → Nat → Nat) (w h z : Nat) : Nat := if w ≤ h then g h z else 0
theorem fz_s (g : Nat → Nat → Nat) (w m : Nat) (hs vs ts : Nat → Nat) : fb_sm (fun i => ts i * fz g w (hs i) (vs i)) m = fb_sm (fun i => ts i * fz g (w + 1) (hs i) (vs i)) m + sc hs w (fun i => ts i * g w (vs i)) m := by
  unfold sc
  rw [← fb_sm_add]
  refine fb_sm_cong (fun i _ => ?_)
  unfold fz
  by_cases c : hs i = w
  · simp only [if_pos c]
    rw [if_pos (by omega), if_neg (by omega), Nat.mul_zero, Nat.zero_add, c]
  · simp only [if_neg c]
    by_cases d : w ≤ hs i
    · rw [if_pos d, if_pos (by omega), Nat.add_zero]
    · rw [if_neg d, if_neg (by omega), Nat.add_zero]
theorem chd_sum {P : Nat → Nat → Nat} {n Y w : Nat} (hf : Fam P n) (hw : w < n) (a : Nat → Nat) : fb_sm (fun x => if chd P Y w x = true then a x else 0) (w + 1) = 0 := sm_0 (fun x hx => if_neg (fun c => by
  have := chd_lt hf (show x < n by omega) c
  omega))
/-- a dead one's parcels: cut, and handed on -/
theorem C_dead {S : St} {n Y v w m : Nat} {P : Nat → Nat → Nat} {hs vs av ts T : Nat → Nat} {L : Nat} {es : Nat → Nat → Nat} (hP : IvP S n P) (hT : TC S n T L) (hK : PK S P n Y v w m hs vs av ts es) (F : Nat) (hF : 100000 ≤ F) (hY : Y ≤ 200) (hw : w < n) (al : ¬ Y < P 1 w) (k : St → Option St) : ∃ (S' : St) (m' : Nat) (hs' vs' av' ts' : Nat → Nat) (L' : Nat) (es' : Nat → Nat → Nat), (cal (fX7_children F S (nI w) (nI Y)) fun b_6 => cal (fX1_cut F S (nI w) b_6) fun b_7 => cal (fX1_handOn F b_7 (nI w) (nI Y)) k) = k S' ∧ Ch 99 S S' ∧ gC S ≤ gC S' ∧ TC S' n T L' ∧ PK S' P n Y v (w + 1) m' hs' vs' av' ts' es' ∧ (∀ x, x < n → fb_sm (fun i => ts' i * fz (fun h z => giv P n Y h z x) (w + 1) (hs' i) (vs' i)) m' = fb_sm (fun i => ts i * fz (fun h z => giv P n Y h z x) w (hs i) (vs i)) m) ∧ L' + fb_sm (fun i => ts' i * fz (fun h z => lap P n Y h z) (w + 1) (hs' i) (vs' i)) m' = L + fb_sm (fun i => ts i * fz (fun h z => lap P n Y h z) w (hs i) (vs i)) m := by
  have hn := hP.1
  have hmx := hK.max hP.fam hn
  obtain ⟨p1, p2, p3, p4, p5, p6, p7, p8⟩ := id hK
  have hkc : kc P n Y w ≤ 30 := Nat.le_trans kc_le hn
  rw [C_kc hP F (by omega) (by omega) hY, cal_s]
  obtain ⟨S1, r1, r2, r3, r4, r5, r6, r7⟩ := C_cut_L (w := w) (hs := hs) (ts := ts) F hkc hmx F m 0 S av L (by omega) (by omega) p1 p2 p3.2 (fun i hi => by
    obtain ⟨a1, a2, a3, a4, a5⟩ := p4 i hi
    exact ⟨a1, a2, a3, a5⟩) hT.2
  have hc : fX1_cut F S (nI w) (nI (kc P n Y w)) = some S1 := by
    unfold fX1_cut
    rw [ix_nI (show w < 30 by omega) (by decide), gd_t, bnd_e, cl (show w < 2147483648 by omega), p7 w hw]
    exact r1
  have ch1 : Ch 99 S S1 := ch_eq r2 r3
  obtain ⟨av1, e1⟩ : ∃ av1 : Nat → Nat, av1 = fun i => if hs i = w ∧ i < m then av i / kc P n Y w else av i := ⟨_, rfl⟩
  have av1w : ∀ i, i < m → hs i = w → av1 i = vs i / kc P n Y w := fun i hi z => by
    rw [e1]; dsimp only
    rw [if_pos ⟨z, hi⟩, p8 i hi (by omega)]
  have hK1 : PK S1 P n Y v (w + 1) m hs vs av1 ts es := by
    refine ⟨by rw [r2]; exact p1, by omega, ⟨by rw [r4]; exact p3.1, by rw [r4]; exact p3.2⟩, fun i hi => ?_, p5, p6, fun h hh => by rw [r3]; exact p7 h hh, fun i hi z => ?_⟩
    · obtain ⟨a1, a2, a3, a4, a5⟩ := p4 i hi
      refine ⟨by rw [r3]; exact a1, by rw [r6 i hi, e1], by rw [r5 84 i (by decide)]; exact a3, a4, ?_⟩
      rw [e1]; dsimp only
      by_cases c : hs i = w ∧ i < m
      · rw [if_pos c]; exact Nat.le_trans (Nat.div_le_self _ _) a5
      · rw [if_neg c]; exact a5
    · rw [e1]; dsimp only
      rw [if_neg (by omega)]
      exact p8 i hi (by omega)
  obtain ⟨S', m', hs', vs', av', ts', es', s1, s2, s3, s4, s5, s6, s7⟩ := C_hand F hF hY hw F (w + 1) S1 m hs vs av1 ts es (hP.ch ch1 (by decide)) (by omega) (by omega) (by omega) hK1 av1w
  have hh : fX1_handOn F S1 (nI w) (nI Y) = some S' := by
    unfold fX1_handOn
    rw [bnd_e, nI_a1]; exact s1
  refine ⟨S', m', hs', vs', av', ts', L + sc hs w (fun i => (av i - av i / kc P n Y w * kc P n Y w) * ts i) m, es', by rw [hc, cal_s, hh, cal_s], ch1.trans s2, by omega, ⟨fun x hx => ?_, ?_⟩, s4, fun x hx => ?_, ?_⟩
  · rw [s5, r5 18 x (by decide)]; exact hT.1 x hx
  · rw [s6]; exact r7
  · have a1 := s7 (fz (fun h z => giv P n Y h z x) (w + 1))
    rw [chd_sum hP.fam hw] at a1
    rw [fz_s (fun h z => giv P n Y h z x) w m hs vs ts]
    have a2 : sc hs w (fun i => ts i * giv P n Y w (vs i) x) m = fb_sm (fun y => if chd P Y w y = true then sc hs w (fun i => ts i * fz (fun h z => giv P n Y h z x) (w + 1) y (av1 i)) m else 0) n := by
      have b1 : sc hs w (fun i => ts i * giv P n Y w (vs i) x) m = sc hs w (fun i => ts i * fb_sm (fun y => if chd P Y w y = true then giv P n Y y (vs i / kc P n Y w) x else 0) n) m := sc_cong (fun _ _ => rfl) (fun i _ _ => by rw [giv_d hP.fam hw al])
      rw [b1, sc_swap hs ts w (fun i y => giv P n Y y (vs i / kc P n Y w) x) (fun y => chd P Y w y = true) n m]
      refine fb_sm_cong (fun y hy => ?_)
      by_cases c : chd P Y w y = true
      · have hlt := chd_lt hP.fam hy c
        rw [if_pos c, if_pos c]
        refine sc_cong (fun _ _ => rfl) (fun i hi z => ?_)
        rw [av1w i hi z]
        unfold fz; rw [if_pos (by omega)]
      · rw [if_neg c, if_neg c]
    rw [a2]
    omega
  · have a1 := s7 (fz (fun h z => lap P n Y h z) (w + 1))
    rw [chd_sum hP.fam hw] at a1
    rw [fz_s (fun h z => lap P n Y h z) w m hs vs ts]
    have a2 : sc hs w (fun i => ts i * lap P n Y w (vs i)) m = sc hs w (fun i => (av i - av i / kc P n Y w * kc P n Y w) * ts i) m + fb_sm (fun y => if chd P Y w y = true then sc hs w (fun i => ts i * fz (fun h z => lap P n Y h z) (w + 1) y (av1 i)) m else 0) n := by
      have b1 : sc hs w (fun i => ts i * lap P n Y w (vs i)) m = sc hs w (fun i => (av i - av i / kc P n Y w * kc P n Y w) * ts i + ts i * fb_sm (fun y => if chd P Y w y = true then lap P n Y y (vs i / kc P n Y w) else 0) n) m := sc_cong (fun _ _ => rfl) (fun i hi z => by rw [lap_d hP.fam hw al, Nat.mul_add, p8 i hi (by omega), Nat.mul_comm (ts i) (vs i - _)])
      rw [b1, sc_add, sc_swap hs ts w (fun i y => lap P n Y y (vs i / kc P n Y w)) (fun y => chd P Y w y = true) n m]
      congr 1
      refine fb_sm_cong (fun y hy => ?_)
      by_cases c : chd P Y w y = true
      · have hlt := chd_lt hP.fam hy c
        rw [if_pos c, if_pos c]
        refine sc_cong (fun _ _ => rfl) (fun i hi z => ?_)
        rw [av1w i hi z]
        unfold fz; rw [if_pos (by omega)]
      · rw [if_neg c, if_neg c]
    rw [a2]
    omega
theorem C_outer {n Y v : Nat} {P : Nat → Nat → Nat} (F : Nat) (hF : 100000 ≤ F) (hY : Y ≤ 200) : ∀ f w (S : St) (m : Nat) (hs vs av ts T : Nat → Nat) (L : Nat) (es : Nat → Nat → Nat), IvP S n P → TC S n T L → PK S P n Y v w m hs vs av ts es → w ≤ n → n < w + f → ∃ (S' : St) (T' : Nat → Nat) (L' : Nat), fX1_inherit_L34 F (nI Y) f (nI w) S = some S' ∧ Ch 99 S S' ∧ gC S ≤ gC S' ∧ CapI S' ∧ TC S' n T' L' ∧ (∀ x, x < n → T' x = T x + fb_sm (fun i => ts i * fz (fun h z => giv P n Y h z x) w (hs i) (vs i)) m) ∧ L' = L + fb_sm (fun i => ts i * fz (fun h z => lap P n Y h z) w (hs i) (vs i)) m := by
  intro f
  induction f with
  | zero => intro w S m hs vs av ts T L es hP hT hK q1 q2; omega
  | succ f ih =>
    intro w S m hs vs av ts T L es hP hT hK q1 q2
    have hn := hP.1
    have hmx := hK.max hP.fam hn
    by_cases en : w = n
    · subst en
      have z : ∀ g : Nat → Nat → Nat, fb_sm (fun i => ts i * fz g w (hs i) (vs i)) m = 0 := fun g => sm_0 (fun i hi => by
        have := (hK.2.2.2.1 i hi).2.2.2.1
        unfold fz; rw [if_neg (by omega), Nat.mul_zero])
      refine ⟨S, T, L, ?_, Ch.rf _ _, Nat.le_refl _, hK.2.2.1, hT, fun x _ => ?_, ?_⟩
      · simp only [fX1_inherit_L34, fX1_inherit_b34, hP.2.1]
        rw [if_pos (c_le (Nat.le_refl _) (by omega))]
      · rw [z]; rfl
      · rw [z]; rfl
    have hw : w < n := by omega
    obtain ⟨k1, k2, k3, k4, k5, k6, k7, k8⟩ := id hK
    obtain ⟨p0, p1, p2, p3, p4, p5, p6, p7, p8, p9, p10, x0, x1, x2⟩ := hP.2.2.2 w hw
    have hx := P1_lt hP hw
    simp only [fX1_inherit_L34, fX1_inherit_b34, hP.2.1]
    rw [if_neg (c_nle hw (by omega))]
    unfold fX7_isDead
    rw [ix_nI (show w < 30 by omega) (by decide), gd_t, gd_t, cl (show w < 2147483648 by omega), p1]
    by_cases al : Y < P 1 w
    · rw [if_pos (c_lt al (by omega)), cal_s, if_pos rfl]
      obtain ⟨S1, r1, r2, r3, r4, r5, r6, r7⟩ := C_keep_L (w := w) (hs := hs) (av := av) (ts := ts) F (by omega) hmx F m 0 S (T w) (by omega) (by omega) k1 k2 k3.2 (fun i hi => by
        obtain ⟨a1, a2, a3, a4, a5⟩ := k4 i hi
        exact ⟨a1, a2, a3⟩) (hT.1 w hw)
      have hk : fX1_keep F S (nI w) = some S1 := by
        unfold fX1_keep
        rw [ix_nI (show w < 30 by omega) (by decide), gd_t, bnd_e, cl (show w < 2147483648 by omega), k7 w hw]
        exact r1
      rw [hk, cal_s, nI_a1]
      have ch1 : Ch 99 S S1 := ch_eq r2 r3
      have hT1 : TC S1 n (fun x => if x = w then T w + sc hs w (fun i => av i * ts i) m else T x) L := ⟨fun x hx => by
        dsimp only
        by_cases ex : x = w
        · rw [if_pos ex, ex]; exact r7
        · rw [if_neg ex, r6 18 x (fun z => ex z.2)]; exact hT.1 x hx, by rw [r5]; exact hT.2⟩
      have hK1 : PK S1 P n Y v (w + 1) m hs vs av ts es := by
        refine ⟨by rw [r2]; exact k1, by omega, ⟨by rw [r4]; exact k3.1, by rw [r4]; exact k3.2⟩, fun i hi => ?_, k5, k6, fun h hh => by rw [r3]; exact k7 h hh, fun i hi z => k8 i hi (by omega)⟩
        rw [r3, r6 83 i (by omega), r6 84 i (by omega)]; exact k4 i hi
      obtain ⟨S', T', L', s1, s2, s3, s4, s5, s6, s7⟩ := ih (w + 1) S1 m hs vs av ts _ L es (hP.ch ch1 (by decide)) hT1 hK1 (by omega) (by omega)
      refine ⟨S', T', L', s1, ch1.trans s2, by omega, s4, s5, fun x hx => ?_, ?_⟩
      · rw [s6 x hx, fz_s (fun h z => giv P n Y h z x) w m hs vs ts]
        by_cases ex : x = w
        · have : sc hs w (fun i => ts i * giv P n Y w (vs i) x) m = sc hs w (fun i => av i * ts i) m := sc_cong (fun _ _ => rfl) (fun i hi z => by rw [giv_a hw al, if_pos ex, k8 i hi (by omega), Nat.mul_comm])
          rw [if_pos ex, this, ex]; omega
        · have : sc hs w (fun i => ts i * giv P n Y w (vs i) x) m = 0 := sm_0 (fun i hi => by
            by_cases z : hs i = w
            · rw [if_pos z]
              show ts i * giv P n Y w (vs i) x = 0
              rw [giv_a hw al, if_neg ex, Nat.mul_zero]
            · rw [if_neg z])
          rw [if_neg ex, this]; omega
      · rw [s7, fz_s (fun h z => lap P n Y h z) w m hs vs ts]
        have : sc hs w (fun i => ts i * lap P n Y w (vs i)) m = 0 := sm_0 (fun i hi => by
          by_cases z : hs i = w
          · rw [if_pos z]
            show ts i * lap P n Y w (vs i) = 0
            rw [lap_a hw al, Nat.mul_zero]
          · rw [if_neg z])
        rw [this]; rfl
    · rw [if_neg (c_nlt (by omega) (by omega)), cal_s, if_neg (by decide), k7 w hw]
      cases e0 : pv hs w m with
      | zero =>
        rw [if_pos cI_0, nI_a1]
        have hK1 : PK S P n Y v (w + 1) m hs vs av ts es := ⟨k1, k2, k3, k4, k5, k6, k7, fun i hi z => k8 i hi (by omega)⟩
        obtain ⟨S', T', L', s1, s2, s3, s4, s5, s6, s7⟩ := ih (w + 1) S m hs vs av ts T L es hP hT hK1 (by omega) (by omega)
        refine ⟨S', T', L', s1, s2, s3, s4, s5, fun x hx => ?_, ?_⟩
        · rw [s6 x hx, fz_s (fun h z => giv P n Y h z x) w m hs vs ts, sc_0 _ e0]; omega
        · rw [s7, fz_s (fun h z => lap P n Y h z) w m hs vs ts, sc_0 _ e0]; omega
      | succ i =>
        obtain ⟨i1, i2, i3⟩ := pv_s e0
        rw [if_neg (cI_s (show i < 2147483648 by omega))]
        obtain ⟨S1, m1, hs1, vs1, av1, ts1, L1, es1, r1, r2, r3, r4, r5, r6, r7⟩ := C_dead hP hT hK F hF hY hw al (fun b_8 => fX1_inherit_L34 F (nI Y) f (nI w + 1) b_8)
        obtain ⟨S', T', L', s1, s2, s3, s4, s5, s6, s7⟩ := ih (w + 1) S1 m1 hs1 vs1 av1 ts1 T L1 es1 (hP.ch r2 (by decide)) r4 r5 (by omega) (by omega)
        refine ⟨S', T', L', ?_, r2.trans s2, by omega, s4, s5, fun x hx => ?_, ?_⟩
        · refine Eq.trans r1 ?_
          rw [nI_a1]; exact s1
        · rw [s6 x hx, r6 x hx]
        · rw [s7, r7]
theorem C_fillI (F : Nat) : ∀ m i (S : St), i ≤ 30 → 30 < i + m → (∀ x, x < i → gA S 81 0 x = -1) → ∃ S', fJ7_fill_53178_L5 F (-1) (nI 30) m (nI i) S = some S' ∧ Ch 99 S S' ∧ gC S' = gC S ∧ gI S' = gI S ∧ gJ S' = gJ S ∧ gB S' = gB S ∧ ∀ x, x < 30 → gA S' 81 0 x = -1 := by
  intro m
  induction m with
  | zero => intro i S q1 q2; omega
  | succ m ih =>
    intro i S q1 q2 h
    simp only [fJ7_fill_53178_L5, fJ7_fill_53178_b5]
    by_cases e : i = 30
    · subst e
      exact ⟨S, by rw [if_pos (c_le (Nat.le_refl _) (by decide))], Ch.rf _ _, rfl, rfl, rfl, rfl, h⟩
    · rw [if_neg (c_nle (show i < 30 by omega) (by decide)), ix_nI (show i < 30 by omega) (by decide), gd_t, bnd_e, cl (show i < 2147483648 by omega), nI_a1]
      obtain ⟨S', r1, r2, r3, r4, r5, r6, r7⟩ := ih (i + 1) (pA S 81 0 i (-1)) (by omega) (by omega) (fun x hx => by
        by_cases ex : x = i
        · subst ex; exact gA_ps _ _ _ _ _
        · rw [gA_pi _ _ _ _ _ _ ex]; exact h x (by omega))
      exact ⟨S', r1, Ch.trans ((Ch.rf 99 S).pA _ (Or.inr rfl)) r2, r3, r4, r5, r6, r7⟩
theorem C_inherit {S : St} {n Y i : Nat} {P : Nat → Nat → Nat} {q : (Nat → Nat) × Nat} (hP : IvP S n P) (F : Nat) (hF : 100000 ≤ F) (hY : Y ≤ 200) (hi : i < n) (hT : TC S n q.1 q.2) (hw : q.1 i ≤ W12) (hc : CapI S) : ∃ S', fX1_inherit F S (nI i) (nI Y) = some S' ∧ Ch 99 S S' ∧ gC S ≤ gC S' ∧ CapI S' ∧ TC S' n (hnd P n Y i q).1 (hnd P n Y i q).2 := by
  have hn := hP.1
  obtain ⟨S0, e0⟩ : ∃ S0 : St, S0 = pI S 1 0 7 (nI 0) := ⟨_, rfl⟩
  have ch0 : Ch 99 S S0 := by rw [e0]; exact Ch.pI (Ch.rf 99 S) _ (Or.inr rfl)
  obtain ⟨S1, f1, f2, f3, f4, f5, f6, f7⟩ := C_fillI F F 0 S0 (by omega) (by omega) (fun x hx => by omega)
  have f1' : fJ7_fill_53178 F S0 (-1) = some S1 := f1
  have ch1 : Ch 99 S S1 := ch0.trans f2
  have g1 : gC S1 = gC S := by rw [f3, e0]; rfl
  have b1 : gB S1 = gB S := by rw [f6, e0]; rfl
  have j1 : gJ S1 = gJ S := by rw [f5, e0]; rfl
  have hK1 : PK S1 P n Y (q.1 i) i 0 (fun _ => 0) (fun _ => 0) (fun _ => 0) (fun _ => 0) (fun _ _ => 0) :=
    ⟨by rw [f4, e0, gI_ps], Nat.zero_le _, ⟨by rw [g1]; exact hc.1, by rw [g1]; exact hc.2⟩, fun i hi => by omega, fun i j hi hj => by omega, fun i hi => by omega, fun h hh => f7 h (by omega), fun i hi => by omega⟩
  obtain ⟨S2, m2, hs2, vs2, av2, ts2, es2, r1, r2, r3, r4, r5, r6, r7, r8, r9, r10⟩ := C_send (w := i) (y := q.1 i) (t := 1) (e := fun _ => 0) hK1 hP.fam hn F hF hi hw (Nat.le_refl _) (fun z => by omega) (fun k => Nat.zero_le _) (by rw [vl_0, Nat.div_one])
  obtain ⟨S3, e3⟩ : ∃ S3 : St, S3 = pB S2 18 0 i 0 := ⟨_, rfl⟩
  have ch3 : Ch 99 S S3 := by rw [e3]; exact (ch1.trans r2).pB _ _ _ _
  have hP3 : IvP S3 n P := hP.ch ch3 (by decide)
  have hT3 : TC S3 n (fun x => if x = i then 0 else q.1 x) q.2 := by
    refine ⟨fun x hx => ?_, ?_⟩
    · dsimp only
      by_cases ex : x = i
      · subst ex; rw [e3, gB_ps, if_pos rfl]; rfl
      · rw [e3, gB_pi _ _ _ _ _ _ ex, if_neg ex, r5, b1]; exact hT.1 x hx
    · rw [e3, gJ_pB, r6, j1]; exact hT.2
  have hK3 : PK S3 P n Y (q.1 i) i m2 hs2 vs2 av2 ts2 es2 := by
    obtain ⟨a1, a2, a3, a4, a5, a6, a7, a8⟩ := r4
    rw [e3]
    refine ⟨a1, a2, a3, fun j hj => ?_, a5, a6, a7, a8⟩
    obtain ⟨b1, b2, b3, b4⟩ := a4 j hj
    exact ⟨b1, (gB_pc _ _ _ _ _ _ (by decide)).trans b2, (gB_pc _ _ _ _ _ _ (by decide)).trans b3, b4⟩
  obtain ⟨S', T', L', s1, s2, s3, s4, s5, s6, s7⟩ := C_outer F hF hY F i S3 m2 hs2 vs2 av2 ts2 _ _ es2 hP3 hT3 hK3 (by omega) (by omega)
  have sm : ∀ g : Nat → Nat → Nat, fb_sm (fun k => ts2 k * fz g i (hs2 k) (vs2 k)) m2 = g i (q.1 i) := fun g => by
    rw [r10 (fz g i)]
    have : fz g i i (q.1 i) = g i (q.1 i) := if_pos (by omega)
    rw [this]
    simp [fb_sm]
  refine ⟨S', ?_, ch3.trans s2, ?_, s4, ⟨fun x hx => ?_, ?_⟩⟩
  · unfold fX1_inherit
    rw [bnd_e, show pI S 1 0 7 0 = S0 by rw [e0]; rfl, f1', cal_s, ix_nI (show i < 30 by omega) (by decide), gd_t, cl (show i < 2147483648 by omega), show gB S1 18 0 i = lN (q.1 i) by rw [b1]; exact hT.1 i hi, show (1 : Int64) = lN 1 from rfl, r1, cal_s, gd_t, bnd_e, ← e3]
    exact s1
  · have g3 : gC S3 = gC S2 := by rw [e3]; rfl
    omega
  · rw [s5.1 x hx, s6 x hx, sm]; rfl
  · rw [s5.2, s7, sm]; rfl
theorem C_year_L {n Y : Nat} {P : Nat → Nat → Nat} {q : (Nat → Nat) × Nat} (F : Nat) (hF : 100000 ≤ F) (hY : Y ≤ 200) (hq : tot n q = W12) : ∀ m i (S : St), i ≤ n → n < i + m → IvP S n P → CapI S → TC S n (yst P n Y i q).1 (yst P n Y i q).2 → ∃ S', fX1_pass_L2 F (nI Y) m (nI i) S = some S' ∧ Ch 99 S S' ∧ gC S ≤ gC S' ∧ CapI S' ∧ TC S' n (yst P n Y n q).1 (yst P n Y n q).2 := by
  have hW : W12 < 2 ^ 63 := by decide
  intro m
  induction m with
  | zero => intro i S q1 q2; omega
  | succ m ih =>
    intro i S q1 q2 hP hc hT
    have hn := hP.1
    by_cases en : i = n
    · subst en
      refine ⟨S, ?_, Ch.rf _ _, Nat.le_refl _, hc, hT⟩
      simp only [fX1_pass_L2, fX1_pass_b2, hP.2.1]
      rw [if_pos (c_le (Nat.le_refl _) (by omega))]
    have hi : i < n := by omega
    have hx := P1_lt hP hi
    obtain ⟨p0, p1, p2, p3, p4, p5, p6, p7, p8, p9, p10, x0, x1, x2⟩ := hP.2.2.2 i hi
    have hti : (yst P n Y i q).1 i ≤ W12 := by rw [← hq, ← yst_tot (Y := Y) (q := q) hP.fam i q1]; exact tot_le hi
    have hl := lg_le0 (y := (yst P n Y i q).1 i) (by omega)
    simp only [fX1_pass_L2, fX1_pass_b2, hP.2.1]
    rw [if_neg (c_nle hi (by omega)), ix_nI (show i < 30 by omega) (by decide), gd_t, gd_t, cl (show i < 2147483648 by omega), p1, hT.1 i hi, nI_a1]
    by_cases c : P 1 i = Y ∧ 0 < (yst P n Y i q).1 i
    · rw [if_pos (show nI (P 1 i) = nI Y by rw [c.1]), if_neg (fun z => by have := hl.mp z; omega)]
      obtain ⟨S1, r1, r2, r3, r3c, r4⟩ := C_inherit hP F hF hY hi hT hti hc
      have e : yst P n Y (i + 1) q = hnd P n Y i (yst P n Y i q) := by rw [yst, if_pos c]
      rw [← e] at r4
      obtain ⟨S', s1, s2, s3, s4⟩ := ih (i + 1) S1 (by omega) (by omega) (hP.ch r2 (by decide)) r3c r4
      exact ⟨S', by rw [r1, cal_s]; exact s1, r2.trans s2, by omega, s4⟩
    · have e : yst P n Y (i + 1) q = yst P n Y i q := by rw [yst, if_neg c]
      rw [← e] at hT
      obtain ⟨S', s1, s2, s3, s4⟩ := ih (i + 1) S (by omega) (by omega) hP hc hT
      refine ⟨S', ?_, s2, s3, s4⟩
      by_cases c1 : P 1 i = Y
      · rw [if_pos (show nI (P 1 i) = nI Y by rw [c1]), if_pos (hl.mpr (by omega))]; exact s1
      · rw [if_neg (c_ne c1 (by omega) (by omega))]; exact s1
theorem C_year {S : St} {n Y : Nat} {P : Nat → Nat → Nat} {q : (Nat → Nat) × Nat} (hP : IvP S n P) (F : Nat) (hF : 100000 ≤ F) (hY : Y ≤ 200) (hq : tot n q = W12) (hc : CapI S) (hT : TC S n q.1 q.2) : ∃ S', fX1_pass F S (nI Y) = some S' ∧ Ch 99 S S' ∧ gC S ≤ gC S' ∧ CapI S' ∧ TC S' n (yst P n Y n q).1 (yst P n Y n q).2 := C_year_L F hF hY hq F 0 S (by omega) (by have := hP.1; omega) hP hc hT
