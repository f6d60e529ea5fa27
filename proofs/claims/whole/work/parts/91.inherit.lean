theorem fb_sm_mulr (f : Nat → Nat) (t : Nat) (p : Nat → Prop) [DecidablePred p] (n : Nat) : fb_sm (fun j => if p j then t * f j else 0) n = t * fb_sm (fun j => if p j then f j else 0) n := by
  rw [fb_sm_mulc]
  refine fb_sm_cong (fun j _ => ?_)
  by_cases q : p j
  · rw [if_pos q, if_pos q]
  · rw [if_neg q, if_neg q, Nat.mul_zero]
theorem sc_add (hs : Nat → Nat) (w : Nat) (a b : Nat → Nat) (m : Nat) : sc hs w (fun i => a i + b i) m = sc hs w a m + sc hs w b m := by
  unfold sc
  rw [← fb_sm_add]
  refine fb_sm_cong (fun i _ => ?_)
  by_cases c : hs i = w
  · simp only [if_pos c]
  · simp only [if_neg c]
theorem sc_swap (hs ts : Nat → Nat) (w : Nat) (G : Nat → Nat → Nat) (p : Nat → Prop) [DecidablePred p] (n : Nat) : ∀ m, sc hs w (fun i => ts i * fb_sm (fun j => if p j then G i j else 0) n) m = fb_sm (fun j => if p j then sc hs w (fun i => ts i * G i j) m else 0) n := by
  intro m
  induction m with
  | zero =>
    refine Eq.symm (sm_0 (fun j _ => ?_))
    by_cases c : p j
    · rw [if_pos c]; rfl
    · rw [if_neg c]
  | succ m ih =>
    have e1 : sc hs w (fun i => ts i * fb_sm (fun j => if p j then G i j else 0) n) (m + 1) = sc hs w (fun i => ts i * fb_sm (fun j => if p j then G i j else 0) n) m + (if hs m = w then ts m * fb_sm (fun j => if p j then G m j else 0) n else 0) := rfl
    have e2 : fb_sm (fun j => if p j then sc hs w (fun i => ts i * G i j) (m + 1) else 0) n = fb_sm (fun j => (if p j then sc hs w (fun i => ts i * G i j) m else 0) + (if p j then (if hs m = w then ts m * G m j else 0) else 0)) n := fb_sm_cong (fun j _ => by
      by_cases c : p j
      · simp only [if_pos c]; rfl
      · simp only [if_neg c])
    rw [e1, e2, fb_sm_add, ih]
    congr 1
    by_cases c : hs m = w
    · simp only [if_pos c]
      rw [fb_sm_mulr (fun j => G m j) (ts m) p n]
    · simp only [if_neg c]
      exact Eq.symm (sm_0 (fun j _ => by
        by_cases d : p j
        · rw [if_pos d]
        · rw [if_neg d]))
theorem ch_eq {S S' : St} (h1 : gI S' = gI S) (h2 : gA S' = gA S) : Ch 99 S S' := ⟨fun c n j _ _ => by rw [h1], fun c n j _ _ => by rw [h2]⟩
/-- a living one keeps what comes -/
theorem C_keep_L {w m : Nat} {hs av ts : Nat → Nat} (F : Nat) (hw : w < 30) (hm : m ≤ 16140) : ∀ f q c (S : St) (a : Nat), q < f → c + q ≤ m → gI S 1 0 7 = nI m → m ≤ gC S → gC S ≤ 32768 → (∀ i, i < m → gA S 82 0 i = cI (pv hs (hs i) i) ∧ gB S 83 0 i = lN (av i) ∧ gB S 84 0 i = lN (ts i)) → gB S 18 0 w = lN a → ∃ S', fX1_keep_L9 F (nI w) f (cI (pv hs w q)) (nI c) S = some S' ∧ gI S' = gI S ∧ gA S' = gA S ∧ gC S' = gC S ∧ gJ S' = gJ S ∧ (∀ c i, ¬ (c = 18 ∧ i = w) → gB S' c 0 i = gB S c 0 i) ∧ gB S' 18 0 w = lN (a + sc hs w (fun i => av i * ts i) q) := by
  intro f
  induction f with
  | zero => intro q c S a q1; omega
  | succ f ih =>
    intro q c S a q1 q2 p1 p2 p3 p4 p5
    simp only [fX1_keep_L9, fX1_keep_b9, p1]
    by_cases e : m ≤ c
    · have : q = 0 := by omega
      subst this
      exact ⟨S, by rw [if_pos (c_le e (by omega))], rfl, rfl, rfl, rfl, fun _ _ _ => rfl, by rw [sc_z, Nat.add_zero]; exact p5⟩
    · rw [if_neg (c_nle (show c < m by omega) (by omega))]
      cases e0 : pv hs w q with
      | zero =>
        refine ⟨S, by rw [if_pos cI_0], rfl, rfl, rfl, rfl, fun _ _ _ => rfl, ?_⟩
        rw [sc_0 _ e0, Nat.add_zero]; exact p5
      | succ i =>
        obtain ⟨i1, i2, i3⟩ := pv_s e0
        have hi : i < m := by omega
        obtain ⟨a1, a2, a3⟩ := p4 i hi
        rw [i2] at a1
        rw [if_neg (cI_s (show i < 2147483648 by omega)), show cI (i + 1) = nI i from rfl, ix_nI (show w < 30 by omega) (by decide), ix_nI (show i < gC S by omega) (by omega), gd_t, gd_t, gd_t, gd_t, bnd_e, cl (show i < 2147483648 by omega), cl (show w < 2147483648 by omega), p5, a2, a3, lN_mul, lN_add]
        obtain ⟨S1, e1⟩ : ∃ S1 : St, S1 = pB S 18 0 w (lN (a + av i * ts i)) := ⟨_, rfl⟩
        rw [← e1]
        have gc1 : gC S1 = gC S := by rw [e1]; rfl
        have ga1 : gA S1 = gA S := by rw [e1]; rfl
        have gi1 : gI S1 = gI S := by rw [e1]; rfl
        have gj1 : gJ S1 = gJ S := by rw [e1]; rfl
        rw [gc1, ix_nI (show i < gC S by omega) (by omega), gd_t, bnd_e, ga1, a1, nI_a1]
        have gb1 : ∀ c i, ¬ (c = 18 ∧ i = w) → gB S1 c 0 i = gB S c 0 i := fun c i h => by
          rw [e1, gB_pB, if_neg (fun z => h ⟨z.1, z.2.2⟩)]
        obtain ⟨S', r1, r2, r3, r4, r5, r6, r7⟩ := ih i (c + 1) S1 (a + av i * ts i) (by omega) (by omega) (by rw [gi1]; exact p1) (by omega) (by omega) (fun k hk => by
          rw [ga1, gb1 83 k (by omega), gb1 84 k (by omega)]; exact p4 k hk) (by rw [e1, gB_ps])
        refine ⟨S', r1, r2.trans gi1, r3.trans ga1, r4.trans gc1, r5.trans gj1, fun c i h => (r6 c i h).trans (gb1 c i h), ?_⟩
        rw [r7, sc_s _ e0]
        congr 1
        omega
/-- of one parcel: what lapses, what a child gets -/
theorem C_lap0 {S : St} (F : Nat) {k i c y t L : Nat} (hk : k ≤ 30) (hi : i < gC S) (hc : gC S ≤ 32768) (h : gB S 83 0 i = lN y) (ht : gB S 84 0 i = lN t) (hL : gJ S 1 0 2 = lN L) (rec : Int32 → Int32 → St → Option St) : fX1_cut_j40 F S (nI k) (nI i) (nI c) (lN (y / k)) rec = rec (gA S 82 0 i) (nI (c + 1)) (pB (pJ S 1 0 2 (lN (L + (y - y / k * k) * t))) 83 0 i (lN (y / k))) := by
  unfold fX1_cut_j40
  simp only [ix_nI hi (show gC S < 2147483648 by omega), gd_t, bnd_e, cl (show i < 2147483648 by omega), h, ht, hL, gC_pJ, gC_pB, gA_pB, gA_pJ, sub_mul_toInt hk, lN_mul, lN_add, nI_a1]
theorem C_lap {S : St} (F : Nat) {k i c y t L : Nat} (hk : k ≤ 30) (hy : y ≤ W12) (hi : i < gC S) (hc : gC S ≤ 32768) (h : gB S 83 0 i = lN y) (ht : gB S 84 0 i = lN t) (hL : gJ S 1 0 2 = lN L) (rec : Int32 → Int32 → St → Option St) : (if nI k = 0 then fX1_cut_j40 F S (nI k) (nI i) (nI c) 0 rec else gd (ix (nI i) (gC S)) <| gd (!(decide ((nI k).toInt64 = (0 : Int64)))) <| fX1_cut_j40 F S (nI k) (nI i) (nI c) ((gB S 83 0 (nI i).toNatClampNeg) / (nI k).toInt64) rec) = rec (gA S 82 0 i) (nI (c + 1)) (pB (pJ S 1 0 2 (lN (L + (y - y / k * k) * t))) 83 0 i (lN (y / k))) := by
  have hW : W12 < 2 ^ 63 := by decide
  have ee := C_lap0 F (c := c) hk hi hc h ht hL rec
  by_cases e : k = 0
  · subst e
    rw [if_pos (show nI 0 = 0 from rfl)]
    simp only [Nat.div_zero] at ee ⊢
    exact ee
  · have nz : ¬ nI k = 0 := c_ne (b := 0) e (by omega) (by decide)
    have nl : ¬ lN k = 0 := fun q => e ((pk_lEQ (a := k) (b := 0) (by omega) (by omega)).mp q)
    rw [if_neg nz]
    have e2 : (nI k).toInt64 = lN k := nI_l (by omega)
    have e3 : lN y / (nI k).toInt64 = lN (y / k) := by rw [e2]; exact pk_lDiv (by omega) (by omega) (by omega)
    rw [ix_nI hi (by omega), gd_t, cl (show i < 2147483648 by omega), h, e3, e2, decide_eq_false nl]
    exact ee
theorem C_cut_L {w m k : Nat} {hs ts : Nat → Nat} (F : Nat) (hk : k ≤ 30) (hm : m ≤ 16140) : ∀ f q c (S : St) (av : Nat → Nat) (L : Nat), q < f → c + q ≤ m → gI S 1 0 7 = nI m → m ≤ gC S → gC S ≤ 32768 → (∀ i, i < m → gA S 82 0 i = cI (pv hs (hs i) i) ∧ gB S 83 0 i = lN (av i) ∧ gB S 84 0 i = lN (ts i) ∧ av i ≤ W12) → gJ S 1 0 2 = lN L → ∃ S', fX1_cut_L10 F (nI k) f (cI (pv hs w q)) (nI c) S = some S' ∧ gI S' = gI S ∧ gA S' = gA S ∧ gC S' = gC S ∧ (∀ c i, c ≠ 83 → gB S' c 0 i = gB S c 0 i) ∧ (∀ i, i < m → gB S' 83 0 i = lN (if hs i = w ∧ i < q then av i / k else av i)) ∧ gJ S' 1 0 2 = lN (L + sc hs w (fun i => (av i - av i / k * k) * ts i) q) := by
  intro f
  induction f with
  | zero => intro q c S av L q1; omega
  | succ f ih =>
    intro q c S av L q1 q2 p1 p2 p3 p4 p5
    simp only [fX1_cut_L10, fX1_cut_b10, p1]
    by_cases e : m ≤ c
    · have : q = 0 := by omega
      subst this
      refine ⟨S, by rw [if_pos (c_le e (by omega))], rfl, rfl, rfl, fun _ _ _ => rfl, fun i hi => ?_, by rw [sc_z, Nat.add_zero]; exact p5⟩
      rw [if_neg (by omega)]; exact (p4 i hi).2.1
    · rw [if_neg (c_nle (show c < m by omega) (by omega))]
      cases e0 : pv hs w q with
      | zero =>
        refine ⟨S, by rw [if_pos cI_0], rfl, rfl, rfl, fun _ _ _ => rfl, fun i hi => ?_, ?_⟩
        · rw [if_neg (fun z => pv_0 e0 i z.2 z.1)]; exact (p4 i hi).2.1
        · rw [sc_0 _ e0, Nat.add_zero]; exact p5
      | succ i =>
        obtain ⟨i1, i2, i3⟩ := pv_s e0
        have hi : i < m := by omega
        obtain ⟨a1, a2, a3, a4⟩ := p4 i hi
        rw [i2] at a1
        rw [if_neg (cI_s (show i < 2147483648 by omega)), show cI (i + 1) = nI i from rfl, C_lap F hk a4 (show i < gC S by omega) p3 a2 a3 p5, a1]
        obtain ⟨S1, e1⟩ : ∃ S1 : St, S1 = pB (pJ S 1 0 2 (lN (L + (av i - av i / k * k) * ts i))) 83 0 i (lN (av i / k)) := ⟨_, rfl⟩
        rw [← e1]
        have gc1 : gC S1 = gC S := by rw [e1]; rfl
        have ga1 : gA S1 = gA S := by rw [e1]; rfl
        have gi1 : gI S1 = gI S := by rw [e1]; rfl
        have gb1 : ∀ c i, c ≠ 83 → gB S1 c 0 i = gB S c 0 i := fun c i h => by
          rw [e1, gB_pB, if_neg (fun z => h z.1), gB_pJ]
        have gv1 : ∀ x, x < m → gB S1 83 0 x = lN (if x = i then av i / k else av x) := fun x hx => by
          by_cases ex : x = i
          · rw [ex, if_pos rfl, e1, gB_ps]
          · rw [if_neg ex, e1, gB_pi _ _ _ _ _ _ ex, gB_pJ]; exact (p4 x hx).2.1
        obtain ⟨S', r1, r2, r3, r4, r5, r6, r7⟩ := ih i (c + 1) S1 (fun x => if x = i then av i / k else av x) (L + (av i - av i / k * k) * ts i) (by omega) (by omega) (by rw [gi1]; exact p1) (by omega) (by omega) (fun x hx => by
          refine ⟨by rw [ga1]; exact (p4 x hx).1, gv1 x hx, by rw [gb1 84 x (by decide)]; exact (p4 x hx).2.2.1, ?_⟩
          by_cases ex : x = i
          · rw [if_pos ex]; exact Nat.le_trans (Nat.div_le_self _ _) a4
          · rw [if_neg ex]; exact (p4 x hx).2.2.2) (by rw [e1, gJ_pB, gJ_ps])
        refine ⟨S', r1, r2.trans gi1, r3.trans ga1, r4.trans gc1, fun c x h => (r5 c x h).trans (gb1 c x h), fun x hx => ?_, ?_⟩
        · rw [r6 x hx]
          congr 1
          by_cases ex : x = i
          · subst ex
            rw [if_neg (by omega), if_pos rfl, if_pos ⟨i2, i1⟩]
          · rw [if_neg ex]
            by_cases c1 : hs x = w ∧ x < i
            · rw [if_pos c1, if_pos ⟨c1.1, by omega⟩]
            · rw [if_neg c1, if_neg (fun z => by
                by_cases c2 : x < i
                · exact c1 ⟨z.1, c2⟩
                · exact i3 x (by omega) z.2 z.1)]
        · rw [r7, sc_s _ e0]
          have : sc hs w (fun x => ((if x = i then av i / k else av x) - (if x = i then av i / k else av x) / k * k) * ts x) i = sc hs w (fun x => (av x - av x / k * k) * ts x) i := sc_cong (fun _ _ => rfl) (fun x hx _ => by
            show ((if x = i then av i / k else av x) - (if x = i then av i / k else av x) / k * k) * ts x = (av x - av x / k * k) * ts x
            rw [if_neg (by omega)])
          rw [this]
          congr 1
          omega
/-- one child gets its part of each parcel -/
theorem C_hand1 {n Y v w j M : Nat} {P : Nat → Nat → Nat} (F : Nat) (hF : 100000 ≤ F) (hj : j < n) (hwj : w < j) (hn : n ≤ 30) (hf : Fam P n) (hk : kc P n Y w ≠ 0) (hM : M ≤ 16140) : ∀ f q c (S : St) (m : Nat) (hs vs av ts : Nat → Nat) (es : Nat → Nat → Nat), q < f → c + q ≤ M → q ≤ m → PK S P n Y v (w + 1) m hs vs av ts es → (∀ i, i < m → hs i = w → av i = vs i / kc P n Y w) → ∃ (S' : St) (m' : Nat) (hs' vs' av' ts' : Nat → Nat) (es' : Nat → Nat → Nat), fX1_sendAll_L16 F (nI j) (nI M) f (cI (pv hs w q)) (nI c) S = some S' ∧ Ch 99 S S' ∧ gC S ≤ gC S' ∧ PK S' P n Y v (w + 1) m' hs' vs' av' ts' es' ∧ (∀ x, gB S' 18 0 x = gB S 18 0 x) ∧ gJ S' = gJ S ∧ m ≤ m' ∧ (∀ i, i < m → hs' i = hs i ∧ vs' i = vs i ∧ av' i = av i ∧ (hs i ≠ j → ts' i = ts i)) ∧ (∀ i, m ≤ i → i < m' → hs' i = j) ∧ ∀ g : Nat → Nat → Nat, fb_sm (fun i => ts' i * g (hs' i) (vs' i)) m' = fb_sm (fun i => ts i * g (hs i) (vs i)) m + sc hs w (fun i => ts i * g j (av i)) q := by
  intro f
  induction f with
  | zero => intro q c S m hs vs av ts es q1; omega
  | succ f ih =>
    intro q c S m hs vs av ts es q1 q2 q3 hK hv
    have hmx := hK.max hf hn
    obtain ⟨p1, p2, p3, p4, p5, p6, p7, p8⟩ := id hK
    have p32 := p3.2
    simp only [fX1_sendAll_L16, fX1_sendAll_b16]
    by_cases e : M ≤ c
    · have : q = 0 := by omega
      subst this
      exact ⟨S, m, hs, vs, av, ts, es, by rw [if_pos (c_le e (by omega))], Ch.rf _ _, Nat.le_refl _, hK, fun _ => rfl, rfl, Nat.le_refl _, fun i _ => ⟨rfl, rfl, rfl, fun _ => rfl⟩, fun i a b => by omega, fun g => by rw [sc_z, Nat.add_zero]⟩
    · rw [if_neg (c_nle (show c < M by omega) (by omega))]
      cases e0 : pv hs w q with
      | zero =>
        refine ⟨S, m, hs, vs, av, ts, es, by rw [if_pos cI_0], Ch.rf _ _, Nat.le_refl _, hK, fun _ => rfl, rfl, Nat.le_refl _, fun i _ => ⟨rfl, rfl, rfl, fun _ => rfl⟩, fun i a b => by omega, fun g => ?_⟩
        rw [sc_0 _ e0, Nat.add_zero]
      | succ i =>
        obtain ⟨i1, i2, i3⟩ := pv_s e0
        have hi : i < m := by omega
        obtain ⟨a1, a2, a3, a4, a5⟩ := p4 i hi
        obtain ⟨b1, b2, b3⟩ := p6 i hi
        have b4 := hv i hi i2
        rw [i2] at b2
        have hkc : kc P n Y w ≤ n := kc_le
        have vk : vl (vt (kc P n Y w)) 10 = kc P n Y w := by
          rcases vl_all ⟨kc P n Y w, by omega⟩ with r | r
          · exact absurd r hk
          · exact r
        obtain ⟨S1, m1, hs1, vs1, av1, ts1, es1, r1, r2, r3, r4, r5, r6, r7, r8, r9, r10⟩ := C_send (w := j) (y := av i) (t := ts i) (e := fun x => es i x + vt (kc P n Y w) x) hK hf hn F hF hj a5 (by omega) (fun _ => by omega) (fun x => Nat.le_trans (show es i x + vt (kc P n Y w) x ≤ AA P n Y (w + 1) x by rw [AA_s]; have := b2 x; omega) (AA_mono (by omega))) (by rw [vl_add, vk, ← Nat.div_div_eq_div_mul, ← b3]; exact b4)
        obtain ⟨c1, c2, c3, c4, c5⟩ := r8 i hi
        have gcm := r4.2.1
        have gcc := r4.2.2.1.2
        have nx : gA S1 82 0 i = cI (pv hs1 w i) := by rw [(r4.2.2.2.1 i (by omega)).1, c1, i2]
        have hv1 : ∀ x, x < m1 → hs1 x = w → av1 x = vs1 x / kc P n Y w := fun x hx hx2 => by
          by_cases ex : x < m
          · obtain ⟨d1, d2, d3, d4, d5⟩ := r8 x ex
            rw [d3, d2]; exact hv x ex (by rw [← d1]; exact hx2)
          · have := r9 x (by omega) hx
            omega
        obtain ⟨S', m', hs', vs', av', ts', es', s1, s2, s3, s4, s5, s6, s7, s8, s9, s10⟩ := ih i (c + 1) S1 m1 hs1 vs1 av1 ts1 es1 (by omega) (by omega) (by omega) r4 hv1
        refine ⟨S', m', hs', vs', av', ts', es', ?_, r2.trans s2, by omega, s4, fun x => (s5 x).trans (r5 x), s6.trans r6, by omega, fun x hx => ?_, fun x hx hx2 => ?_, fun g => ?_⟩
        · rw [if_neg (cI_s (show i < 2147483648 by omega)), show cI (i + 1) = nI i from rfl, ix_nI (show i < gC S by omega) (by omega), gd_t, gd_t, cl (show i < 2147483648 by omega), a2, a3, r1, cal_s, ix_nI (show i < gC S1 by omega) (by omega), gd_t, bnd_e, nx, nI_a1]
          exact s1
        · obtain ⟨d1, d2, d3, d4, d5⟩ := r8 x hx
          obtain ⟨f1, f2, f3, f4⟩ := s8 x (by omega)
          exact ⟨f1.trans d1, f2.trans d2, f3.trans d3, fun z => (f4 (by rw [d1]; exact z)).trans (d5 z)⟩
        · by_cases ex : x < m1
          · rw [(s8 x ex).1]; exact r9 x hx ex
          · exact s9 x (by omega) hx2
        · rw [s10 g, r10 g, sc_s _ e0]
          have : sc hs1 w (fun x => ts1 x * g j (av1 x)) i = sc hs w (fun x => ts x * g j (av x)) i := sc_cong (fun x hx => (r8 x (by omega)).1) (fun x hx z => by
            obtain ⟨d1, d2, d3, d4, d5⟩ := r8 x (by omega)
            show ts1 x * g j (av1 x) = ts x * g j (av x)
            rw [d3, d5 (by omega)])
          rw [this]
          omega
theorem C_hand {n Y v w : Nat} {P : Nat → Nat → Nat} (F : Nat) (hF : 100000 ≤ F) (hY : Y ≤ 200) (hw : w < n) : ∀ f j (S : St) (m : Nat) (hs vs av ts : Nat → Nat) (es : Nat → Nat → Nat), IvP S n P → w < j → j ≤ n → n < j + f → PK S P n Y v (w + 1) m hs vs av ts es → (∀ i, i < m → hs i = w → av i = vs i / kc P n Y w) → ∃ (S' : St) (m' : Nat) (hs' vs' av' ts' : Nat → Nat) (es' : Nat → Nat → Nat), fX1_handOn_L4 F (nI w) (nI Y) f (nI j) S = some S' ∧ Ch 99 S S' ∧ gC S ≤ gC S' ∧ PK S' P n Y v (w + 1) m' hs' vs' av' ts' es' ∧ (∀ x, gB S' 18 0 x = gB S 18 0 x) ∧ gJ S' = gJ S ∧ ∀ g : Nat → Nat → Nat, fb_sm (fun i => ts' i * g (hs' i) (vs' i)) m' + fb_sm (fun x => if chd P Y w x = true then sc hs w (fun i => ts i * g x (av i)) m else 0) j = fb_sm (fun i => ts i * g (hs i) (vs i)) m + fb_sm (fun x => if chd P Y w x = true then sc hs w (fun i => ts i * g x (av i)) m else 0) n := by
  intro f
  induction f with
  | zero => intro j S m hs vs av ts es hP q1 q2 q3; omega
  | succ f ih =>
    intro j S m hs vs av ts es hP q1 q2 q3 hK hv
    have hn := hP.1
    have hmx := hK.max hP.fam hn
    by_cases en : j = n
    · subst en
      refine ⟨S, m, hs, vs, av, ts, es, ?_, Ch.rf _ _, Nat.le_refl _, hK, fun _ => rfl, rfl, fun g => rfl⟩
      simp only [fX1_handOn_L4, fX1_handOn_b4, hP.2.1]
      rw [if_pos (c_le (Nat.le_refl _) (by omega))]
    have hj : j < n := by omega
    by_cases c : chd P Y w j = true
    · have hk : kc P n Y w ≠ 0 := fun z => by
        have := fb_ct_zero.mp z j hj
        rw [this] at c; cases c
      obtain ⟨S1, m1, hs1, vs1, av1, ts1, es1, r1, r2, r3, r4, r5, r6, r7, r8, r9, r10⟩ := C_hand1 F hF hj q1 hn hP.fam hk hmx F m 0 S m hs vs av ts es (by omega) (by omega) (by omega) hK hv
      have rA : fX1_sendAll F S (nI w) (nI j) = some S1 := by
        unfold fX1_sendAll
        rw [hK.1, bnd_e, ix_nI (show w < 30 by omega) (by decide), gd_t, bnd_e, cl (show w < 2147483648 by omega), hK.2.2.2.2.2.2.1 w hw]
        exact r1
      have hv1 : ∀ x, x < m1 → hs1 x = w → av1 x = vs1 x / kc P n Y w := fun x hx hx2 => by
        by_cases ex : x < m
        · obtain ⟨d1, d2, d3, d4⟩ := r8 x ex
          rw [d3, d2]; exact hv x ex (by rw [← d1]; exact hx2)
        · have := r9 x (by omega) hx
          omega
      obtain ⟨S', m', hs', vs', av', ts', es', s1, s2, s3, s4, s5, s6, s7⟩ := ih (j + 1) S1 m1 hs1 vs1 av1 ts1 es1 (hP.ch r2 (by decide)) (by omega) (by omega) (by omega) r4 hv1
      refine ⟨S', m', hs', vs', av', ts', es', ?_, r2.trans s2, by omega, s4, fun x => (s5 x).trans (r5 x), s6.trans r6, fun g => ?_⟩
      · simp only [fX1_handOn_L4, fX1_handOn_b4, hP.2.1]
        rw [if_neg (c_nle hj (by omega)), C_chd hP hj (by omega) hY, cal_s, if_pos c, if_neg (by decide), rA, cal_s, nI_a1]
        exact s1
      · have a1 := s7 g
        have a2 := r10 g
        have same : ∀ x, sc hs1 w (fun i => ts1 i * g x (av1 i)) m1 = sc hs w (fun i => ts i * g x (av i)) m := fun x => sc_ext r7 (fun i hi => (r8 i hi).1) (fun i hi z => by
          obtain ⟨d1, d2, d3, d4⟩ := r8 i hi
          show ts1 i * g x (av1 i) = ts i * g x (av i)
          rw [d3, d4 (by omega)]) (fun i hi hi2 => by rw [r9 i hi hi2]; omega)
        simp only [same] at a1
        rw [fb_sm_succ, if_pos c] at a1
        omega
    · obtain ⟨S', m', hs', vs', av', ts', es', s1, s2, s3, s4, s5, s6, s7⟩ := ih (j + 1) S m hs vs av ts es hP (by omega) (by omega) (by omega) hK hv
      refine ⟨S', m', hs', vs', av', ts', es', ?_, s2, s3, s4, s5, s6, fun g => ?_⟩
      · simp only [fX1_handOn_L4, fX1_handOn_b4, hP.2.1]
        rw [if_neg (c_nle hj (by omega)), C_chd hP hj (by omega) hY, cal_s, if_neg c, if_pos rfl, nI_a1]
        exact s1
      · have a1 := s7 g
        rw [fb_sm_succ, if_neg c] at a1
        exact a1
