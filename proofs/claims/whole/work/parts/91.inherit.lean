theorem C_give {n Y v w t y : Nat} {P : Nat → Nat → Nat} {T : Nat → Nat} {L : Nat} {e : Nat → Nat} (F : Nat) (hF : 100000 ≤ F) (hY : Y ≤ 200) (hw : w < n) (hy : y ≤ W12) (he : ∀ k, e k ≤ AA P n Y (w + 1) k) (hv : y = v / vl e 10) : ∀ m i (S : St) (q : Nat) (hs vs ts : Nat → Nat) (es : Nat → Nat → Nat), IvP S n P → i ≤ n → n < i + m → TC S n T L → PK S P n Y v q hs vs ts es → 1 ≤ q → ∃ (S' : St) (q' : Nat) (hs' vs' ts' : Nat → Nat) (es' : Nat → Nat → Nat), fX1_arrive_L78 F (nI w) (lN t) (nI Y) (lN y) m (nI i) S = some S' ∧ Ch 99 S S' ∧ gC S ≤ gC S' ∧ TC S' n T L ∧ PK S' P n Y v q' hs' vs' ts' es' ∧ q ≤ q' ∧ (∀ k, k < q → hs' k = hs k ∧ vs' k = vs k ∧ es' k = es k) ∧ (∀ k, q ≤ k → k < q' → w < hs' k) ∧ ∀ f : Nat → Nat → Nat → Nat, (∀ a b h z, w < h → f a h z = f b h z) → fb_sm (fun k => ts' k * f k (hs' k) (vs' k)) q' + fb_sm (fun j => if chd P Y w j = true then t * f 0 j y else 0) i = fb_sm (fun k => ts k * f k (hs k) (vs k)) q + fb_sm (fun j => if chd P Y w j = true then t * f 0 j y else 0) n := by
  intro m
  induction m with
  | zero => intro i S q hs vs ts es hP q1 q2; omega
  | succ m ih =>
    intro i S q hs vs ts es hP q1 q2 hT hK hq
    have hn := hP.1
    by_cases en : i = n
    · subst en
      refine ⟨S, q, hs, vs, ts, es, ?_, Ch.rf _ _, Nat.le_refl _, hT, hK, Nat.le_refl _, fun k _ => ⟨rfl, rfl, rfl⟩, fun k a b => by omega, fun f _ => rfl⟩
      simp only [fX1_arrive_L78, fX1_arrive_b78, hP.2.1]
      rw [if_pos (c_le (Nat.le_refl _) (by omega))]
    have hi : i < n := by omega
    by_cases c : chd P Y w i = true
    · have hlt := chd_lt hP.fam hi c
      obtain ⟨S1, q1', hs1, vs1, ts1, es1, r1, r2, r3, r4, r5, r6, r7, r8, r9, r10⟩ := C_send (w := i) (y := y) (t := t) (e := e) hK hP.fam hn F hF hi hy (fun _ => by omega) (fun k => Nat.le_trans (he k) (AA_mono (by omega))) hv
      have hT1 : TC S1 n T L := ⟨fun x hx => by rw [r5]; exact hT.1 x hx, by rw [r6]; exact hT.2⟩
      obtain ⟨S', q', hs', vs', ts', es', s1, s2, s3, s4, s5, s6, s7, s8, s9⟩ := ih (i + 1) S1 q1' hs1 vs1 ts1 es1 (hP.ch r2 (by decide)) (by omega) (by omega) hT1 r4 (by omega)
      refine ⟨S', q', hs', vs', ts', es', ?_, r2.trans s2, by omega, s4, s5, by omega, fun k hk => ?_, fun k hk hk2 => ?_, fun f hff => ?_⟩
      · simp only [fX1_arrive_L78, fX1_arrive_b78, hP.2.1]
        rw [if_neg (c_nle hi (by omega)), C_chd hP hi (by omega) hY, cal_s, if_pos c, if_neg (by decide), r1, cal_s, nI_a1]
        exact s1
      · obtain ⟨a1, a2, a3⟩ := s7 k (by omega)
        obtain ⟨b1, b2, b3⟩ := r8 k hk
        exact ⟨a1.trans b1, a2.trans b2, a3.trans b3⟩
      · by_cases ek : k < q1'
        · rw [(s7 k ek).1, r9 k hk ek]; exact hlt
        · exact s8 k (by omega) hk2
      · have a1 := s9 f hff
        have a2 := r10 f (fun a b => hff a b i y hlt)
        rw [fb_sm_succ, if_pos c] at a1
        omega
    · obtain ⟨S', q', hs', vs', ts', es', s1, s2, s3, s4, s5, s6, s7, s8, s9⟩ := ih (i + 1) S q hs vs ts es hP (by omega) (by omega) hT hK hq
      refine ⟨S', q', hs', vs', ts', es', ?_, s2, s3, s4, s5, s6, s7, s8, fun f hff => ?_⟩
      · simp only [fX1_arrive_L78, fX1_arrive_b78, hP.2.1]
        rw [if_neg (c_nle hi (by omega)), C_chd hP hi (by omega) hY, cal_s, if_neg c, if_pos rfl, nI_a1]
        exact s1
      · have a1 := s9 f hff
        rw [fb_sm_succ, if_neg c] at a1
        exact a1
theorem C_lap {S : St} (F : Nat) {w y t k Y L : Nat} (hk : k ≤ 30) (hy : y ≤ W12) (hL : gJ S 1 0 2 = lN L) : (if nI k = 0 then fX1_arrive_j53 F S (nI w) (lN y) (lN t) (nI Y) (nI k) 0 else gd (!(decide ((nI k).toInt64 = (0 : Int64)))) (fX1_arrive_j53 F S (nI w) (lN y) (lN t) (nI Y) (nI k) (lN y / (nI k).toInt64))) = fX1_arrive_L78 F (nI w) (lN t) (nI Y) (lN (y / k)) F 0 (pJ S 1 0 2 (lN (L + (y - y / k * k) * t))) := by
  have hW : W12 < 2 ^ 63 := by decide
  have ee := sub_mul_toInt (v := y) (k := k) hk
  by_cases e : k = 0
  · subst e
    rw [if_pos (show nI 0 = 0 from rfl)]
    simp only [Nat.div_zero] at ee ⊢
    unfold fX1_arrive_j53
    rw [bnd_e, hL, show (0 : Int64) = lN 0 from rfl, ee, lN_mul, lN_add]
  · have nz : ¬ nI k = 0 := c_ne (b := 0) e (by omega) (by decide)
    have nl : ¬ lN k = 0 := fun q => e ((pk_lEQ (a := k) (b := 0) (by omega) (by omega)).mp q)
    rw [if_neg nz]
    have e2 : (nI k).toInt64 = lN k := nI_l (by omega)
    have e3 : lN y / (nI k).toInt64 = lN (y / k) := by rw [e2]; exact pk_lDiv (by omega) (by omega) (by omega)
    rw [e3]
    rw [e2, decide_eq_false nl]
    show fX1_arrive_j53 _ _ _ _ _ _ _ _ = _
    unfold fX1_arrive_j53
    rw [bnd_e, hL, ee, lN_mul, lN_add]
/-- which parcels are still on their way -/
def fy (g : Nat → Nat → Nat) (w idx i h z : Nat) : Nat := if w < h ∨ (h = w ∧ idx ≤ i) then g h z else 0
theorem fy_hi (g : Nat → Nat → Nat) (w idx a b h z : Nat) (hw : w < h) : fy g w idx a h z = fy g w idx b h z := by
  unfold fy; rw [if_pos (Or.inl hw), if_pos (Or.inl hw)]
theorem fy_v (g : Nat → Nat → Nat) {w idx a h z : Nat} (hw : w < h) : fy g w idx a h z = g h z := if_pos (Or.inl hw)
/-- parcel idx is done -/
theorem fy_step (g : Nat → Nat → Nat) {w idx m : Nat} {hs vs ts : Nat → Nat} (hi : idx < m) : fb_sm (fun i => ts i * fy g w idx i (hs i) (vs i)) m = fb_sm (fun i => ts i * fy g w (idx + 1) i (hs i) (vs i)) m + (if hs idx = w then ts idx * g w (vs idx) else 0) := by
  by_cases e : hs idx = w
  · rw [if_pos e]
    have u := fb_sm_upd (fun i => ts i * fy g w (idx + 1) i (hs i) (vs i)) (ts idx * g w (vs idx)) hi
    have z : ts idx * fy g w (idx + 1) idx (hs idx) (vs idx) = 0 := by
      unfold fy; rw [if_neg (by omega), Nat.mul_zero]
    have c : fb_sm (fun i => ts i * fy g w idx i (hs i) (vs i)) m = fb_sm (fun k => if k = idx then ts idx * g w (vs idx) else ts k * fy g w (idx + 1) k (hs k) (vs k)) m := fb_sm_cong (fun i _ => by
      by_cases ei : i = idx
      · subst ei; rw [if_pos rfl]
        unfold fy; rw [if_pos (Or.inr ⟨e, Nat.le_refl _⟩), e]
      · rw [if_neg ei]
        unfold fy
        by_cases q : w < hs i ∨ (hs i = w ∧ idx ≤ i)
        · rw [if_pos q, if_pos (by omega)]
        · rw [if_neg q, if_neg (by omega)])
    simp only [z] at u
    rw [c]; omega
  · rw [if_neg e, Nat.add_zero]
    refine fb_sm_cong (fun i _ => ?_)
    unfold fy
    by_cases ei : i = idx
    · subst ei
      by_cases q : w < hs i
      · rw [if_pos (Or.inl q), if_pos (Or.inl q)]
      · rw [if_neg (by omega), if_neg (by omega)]
    · by_cases q : w < hs i ∨ (hs i = w ∧ idx ≤ i)
      · rw [if_pos q, if_pos (by omega)]
      · rw [if_neg q, if_neg (by omega)]
theorem fb_sm_mulr (f : Nat → Nat) (t : Nat) (p : Nat → Prop) [DecidablePred p] (n : Nat) : fb_sm (fun j => if p j then t * f j else 0) n = t * fb_sm (fun j => if p j then f j else 0) n := by
  rw [fb_sm_mulc]
  refine fb_sm_cong (fun j _ => ?_)
  by_cases q : p j
  · rw [if_pos q, if_pos q]
  · rw [if_neg q, if_neg q, Nat.mul_zero]
theorem C_arrive {S : St} {P : Nat → Nat → Nat} {n Y v q idx w : Nat} {hs vs ts T : Nat → Nat} {L : Nat} {es : Nat → Nat → Nat} (hP : IvP S n P) (hT : TC S n T L) (hK : PK S P n Y v q hs vs ts es) (F : Nat) (hF : 100000 ≤ F) (hY : Y ≤ 200) (hi : idx < q) (hw : hs idx = w) : ∃ (S' : St) (q' : Nat) (hs' vs' ts' T' : Nat → Nat) (L' : Nat) (es' : Nat → Nat → Nat), fX1_arrive F S (nI w) (lN (vs idx)) (lN (ts idx)) (nI Y) = some S' ∧ Ch 99 S S' ∧ gC S ≤ gC S' ∧ TC S' n T' L' ∧ PK S' P n Y v q' hs' vs' ts' es' ∧ q ≤ q' ∧ (∀ k, k < q → hs' k = hs k) ∧ (∀ k, q ≤ k → k < q' → w < hs' k) ∧ (∀ x, x < n → T' x + fb_sm (fun i => ts' i * fy (fun h z => giv P n Y h z x) w (idx + 1) i (hs' i) (vs' i)) q' = T x + fb_sm (fun i => ts i * fy (fun h z => giv P n Y h z x) w idx i (hs i) (vs i)) q) ∧ L' + fb_sm (fun i => ts' i * fy (fun h z => lap P n Y h z) w (idx + 1) i (hs' i) (vs' i)) q' = L + fb_sm (fun i => ts i * fy (fun h z => lap P n Y h z) w idx i (hs i) (vs i)) q := by
  have hn := hP.1
  obtain ⟨k1, k2, k3, k4, k5, k6⟩ := id hK
  obtain ⟨a1, a2, a3, a4, a5⟩ := k4 idx hi
  obtain ⟨b1, b2, b3⟩ := k6 idx hi
  rw [hw] at a4 b2
  obtain ⟨p0, p1, p2, p3, p4, p5, p6, p7, p8, p9, p10, x0, x1, x2⟩ := hP.2.2.2 w a4
  have hx := P1_lt hP a4
  obtain ⟨y, ey⟩ : ∃ y, y = vs idx := ⟨_, rfl⟩
  obtain ⟨t, et⟩ : ∃ t, t = ts idx := ⟨_, rfl⟩
  unfold fX1_arrive fX7_isDead
  rw [ix_nI (show w < 30 by omega) (by decide), gd_t, gd_t, gd_t, cl (show w < 2147483648 by omega), p1]
  by_cases al : Y < P 1 w
  · rw [if_pos (c_lt al (by omega)), cal_s, if_pos rfl, bnd_e, hT.1 w a4, lN_mul, lN_add]
    refine ⟨_, q, hs, vs, ts, fun x => if x = w then T w + vs idx * ts idx else T x, L, es, rfl, (Ch.rf 99 S).pB _ _ _ _, Nat.le_refl _, ⟨fun x hx => ?_, hT.2⟩, ⟨k1, k2, k3, fun i hi => ?_, k5, k6⟩, Nat.le_refl _, fun k _ => rfl, fun k a b => by omega, fun x hx => ?_, ?_⟩
    · dsimp only
      by_cases ex : x = w
      · subst ex; rw [gB_ps, if_pos rfl]
      · rw [gB_pi _ _ _ _ _ _ ex, if_neg ex]; exact hT.1 x hx
    · obtain ⟨c1, c2, c3, c4⟩ := k4 i hi
      exact ⟨c1, (gB_pc _ _ _ _ _ _ (by decide)).trans c2, (gB_pc _ _ _ _ _ _ (by decide)).trans c3, c4⟩
    · dsimp only
      rw [fy_step (fun h z => giv P n Y h z x) hi, if_pos hw, giv_a a4 al]
      by_cases ex : x = w
      · subst ex; rw [if_pos rfl, if_pos rfl, Nat.mul_comm (vs idx)]; omega
      · rw [if_neg ex, if_neg ex, Nat.mul_zero]; omega
    · rw [fy_step (fun h z => lap P n Y h z) hi, if_pos hw, lap_a a4 al, Nat.mul_zero]; omega
  · rw [if_neg (c_nlt (by omega) (by omega)), cal_s, if_neg (by decide), C_kc hP F (by omega) (by omega) hY, cal_s]
    have hkc : kc P n Y w ≤ 30 := Nat.le_trans kc_le hn
    obtain ⟨S1, e1⟩ : ∃ S1 : St, S1 = pJ S 1 0 2 (lN (L + (vs idx - vs idx / kc P n Y w * kc P n Y w) * ts idx)) := ⟨_, rfl⟩
    rw [C_lap F hkc a5 hT.2, ← e1]
    have ch1 : Ch 99 S S1 := by rw [e1]; exact (Ch.rf 99 S).pJ _ _ _ _
    have hP1 : IvP S1 n P := hP.ch ch1 (by decide)
    have hT1 : TC S1 n T (L + (vs idx - vs idx / kc P n Y w * kc P n Y w) * ts idx) := ⟨fun x hx => by rw [e1]; exact hT.1 x hx, by rw [e1, gJ_ps]⟩
    have hK1 : PK S1 P n Y v q hs vs ts es := by rw [e1]; exact hK
    have sums : ∀ f : Nat → Nat → Nat → Nat, (∀ j, chd P Y w j = false) → fb_sm (fun j => if chd P Y w j = true then ts idx * f 0 j (vs idx / kc P n Y w) else 0) n = 0 := fun f hz => sm_0 (fun j hj => by rw [if_neg (by rw [hz j]; decide)])
    by_cases kz : kc P n Y w = 0
    · have none : ∀ j, j < n → chd P Y w j = false := fb_ct_zero.mp kz
      have lp : ∀ m i, i ≤ n → n < i + m → fX1_arrive_L78 F (nI w) (lN (ts idx)) (nI Y) (lN (vs idx / kc P n Y w)) m (nI i) S1 = some S1 := by
        intro m
        induction m with
        | zero => intro i q1 q2; omega
        | succ m ih =>
          intro i q1 q2
          simp only [fX1_arrive_L78, fX1_arrive_b78, hP1.2.1]
          by_cases en : i = n
          · rw [en, if_pos (c_le (Nat.le_refl _) (by omega))]
          · rw [if_neg (c_nle (show i < n by omega) (by omega)), C_chd hP1 (show i < n by omega) (by omega) hY, cal_s, if_neg (show ¬ chd P Y w i = true by rw [none i (by omega)]; decide), if_pos rfl, nI_a1]
            exact ih (i + 1) (by omega) (by omega)
      refine ⟨S1, q, hs, vs, ts, T, _, es, lp F 0 (by omega) (by omega), ch1, by rw [e1]; exact Nat.le_refl _, hT1, hK1, Nat.le_refl _, fun k _ => rfl, fun k a b => by omega, fun x hx => ?_, ?_⟩
      · have z : giv P n Y w (vs idx) x = 0 := by
          rw [giv_d hP.fam a4 al]
          exact sm_0 (fun j hj => if_neg (by rw [none j hj]; decide))
        rw [fy_step (fun h z => giv P n Y h z x) hi, if_pos hw, z, Nat.mul_zero]; omega
      · have z : lap P n Y w (vs idx) = vs idx - vs idx / kc P n Y w * kc P n Y w := by
          rw [lap_d hP.fam a4 al]
          have : fb_sm (fun j => if chd P Y w j = true then lap P n Y j (vs idx / kc P n Y w) else 0) n = 0 := sm_0 (fun j hj => if_neg (by rw [none j hj]; decide))
          rw [this, Nat.add_zero]
        rw [fy_step (fun h z => lap P n Y h z) hi, if_pos hw, z, Nat.mul_comm (ts idx)]
        omega
    · have vk : vl (vt (kc P n Y w)) 10 = kc P n Y w := by
        rcases vl_all ⟨kc P n Y w, by omega⟩ with r | r
        · exact absurd r kz
        · exact r
      have hle : vs idx / kc P n Y w ≤ vs idx := Nat.div_le_self _ _
      obtain ⟨S', q', hs', vs', ts', es', s1, s2, s3, s4, s5, s6, s7, s8, s9⟩ := C_give (P := P) (n := n) (w := w) (t := ts idx) (y := vs idx / kc P n Y w) (v := v) (e := fun k => es idx k + vt (kc P n Y w) k) F hF hY a4 (by omega) (fun k => by rw [AA_s]; have := b2 k; omega) (by rw [vl_add, vk, ← Nat.div_div_eq_div_mul, ← b3]) F 0 S1 q hs vs ts es hP1 (by omega) (by omega) hT1 hK1 (by omega)
      refine ⟨S', q', hs', vs', ts', T, _, es', s1, ch1.trans s2, by rw [e1] at s3; exact s3, s4, s5, s6, fun k hk => (s7 k hk).1, s8, fun x hx => ?_, ?_⟩
      · have g1 := s9 (fy (fun h z => giv P n Y h z x) w (idx + 1)) (fun a b h z hh => fy_hi _ _ _ _ _ _ _ hh)
        have g2 : fb_sm (fun j => if chd P Y w j = true then ts idx * fy (fun h z => giv P n Y h z x) w (idx + 1) 0 j (vs idx / kc P n Y w) else 0) n = ts idx * giv P n Y w (vs idx) x := by
          rw [giv_d hP.fam a4 al, ← fb_sm_mulr (fun j => giv P n Y j (vs idx / kc P n Y w) x) (ts idx) (fun j => chd P Y w j = true)]
          refine fb_sm_cong (fun j hj => ?_)
          by_cases c : chd P Y w j = true
          · rw [if_pos c, if_pos c, fy_v _ (chd_lt hP.fam hj c)]
          · rw [if_neg c, if_neg c]
        rw [g2] at g1
        rw [fy_step (fun h z => giv P n Y h z x) hi, if_pos hw]
        have g3 : fb_sm (fun j => if chd P Y w j = true then ts idx * fy (fun h z => giv P n Y h z x) w (idx + 1) 0 j (vs idx / kc P n Y w) else 0) 0 = 0 := rfl
        omega
      · have g1 := s9 (fy (fun h z => lap P n Y h z) w (idx + 1)) (fun a b h z hh => fy_hi _ _ _ _ _ _ _ hh)
        have g2 : fb_sm (fun j => if chd P Y w j = true then ts idx * fy (fun h z => lap P n Y h z) w (idx + 1) 0 j (vs idx / kc P n Y w) else 0) n = ts idx * fb_sm (fun j => if chd P Y w j = true then lap P n Y j (vs idx / kc P n Y w) else 0) n := by
          rw [← fb_sm_mulr (fun j => lap P n Y j (vs idx / kc P n Y w)) (ts idx) (fun j => chd P Y w j = true)]
          refine fb_sm_cong (fun j hj => ?_)
          by_cases c : chd P Y w j = true
          · rw [if_pos c, if_pos c, fy_v _ (chd_lt hP.fam hj c)]
          · rw [if_neg c, if_neg c]
        rw [g2] at g1
        rw [fy_step (fun h z => lap P n Y h z) hi, if_pos hw, lap_d hP.fam a4 al, Nat.mul_add, Nat.mul_comm (ts idx) (vs idx - _)]
        have g3 : fb_sm (fun j => if chd P Y w j = true then ts idx * fy (fun h z => lap P n Y h z) w (idx + 1) 0 j (vs idx / kc P n Y w) else 0) 0 = 0 := rfl
        omega
