/-! PARCELS OF THE CLASS: chained by heir -/
def TC (S : St) (n : Nat) (T : Nat → Nat) (L : Nat) : Prop := (∀ x, x < n → gB S 18 0 x = lN (T x)) ∧ gJ S 1 0 2 = lN L
def CapI (S : St) : Prop := 0 < gC S ∧ gC S ≤ 32768
/-- a place told by one more than its number; 0: none, told as -1 -/
def cI : Nat → Int32
  | 0 => -1
  | i + 1 => nI i
/-- one more than the last place below q whose heir is h; 0: none -/
def pv (hs : Nat → Nat) (h : Nat) : Nat → Nat
  | 0 => 0
  | q + 1 => if hs q = h then q + 1 else pv hs h q
theorem cI_0 : cI 0 < 0 := by decide
theorem cI_s {i : Nat} (h : i < 2147483648) : ¬ cI (i + 1) < 0 := c_nlt (a := i) (b := 0) (Nat.zero_le _) h
theorem pv_0 {hs : Nat → Nat} {h : Nat} : ∀ {q}, pv hs h q = 0 → ∀ k, k < q → hs k ≠ h := by
  intro q
  induction q with
  | zero => intro _ k hk; omega
  | succ q ih =>
    intro e k hk
    rw [pv] at e
    by_cases c : hs q = h
    · rw [if_pos c] at e; omega
    · rw [if_neg c] at e
      by_cases ek : k = q
      · subst ek; exact c
      · exact ih e k (by omega)
theorem pv_s {hs : Nat → Nat} {h i : Nat} : ∀ {q}, pv hs h q = i + 1 → i < q ∧ hs i = h ∧ ∀ k, i < k → k < q → hs k ≠ h := by
  intro q
  induction q with
  | zero => intro e; cases e
  | succ q ih =>
    intro e
    rw [pv] at e
    by_cases c : hs q = h
    · rw [if_pos c] at e
      have : q = i := by omega
      subst this
      exact ⟨by omega, c, fun k a b => by omega⟩
    · rw [if_neg c] at e
      obtain ⟨a1, a2, a3⟩ := ih e
      refine ⟨by omega, a2, fun k b1 b2 => ?_⟩
      by_cases ek : k = q
      · subst ek; exact c
      · exact a3 k b1 (by omega)
theorem pv_cong {hs hs' : Nat → Nat} {h : Nat} : ∀ {q}, (∀ k, k < q → hs' k = hs k) → pv hs' h q = pv hs h q := by
  intro q
  induction q with
  | zero => intro _; rfl
  | succ q ih => intro e; rw [pv, pv, ih (fun k hk => e k (by omega)), e q (by omega)]
/-- the sum over one heir's parcels below q -/
def sc (hs : Nat → Nat) (h : Nat) (g : Nat → Nat) (q : Nat) : Nat := fb_sm (fun k => if hs k = h then g k else 0) q
theorem sc_z (hs : Nat → Nat) (h : Nat) (g : Nat → Nat) : sc hs h g 0 = 0 := rfl
theorem sc_0 {hs : Nat → Nat} {h q : Nat} (g : Nat → Nat) (e : pv hs h q = 0) : sc hs h g q = 0 := sm_0 (fun k hk => if_neg (pv_0 e k hk))
theorem sc_s {hs : Nat → Nat} {h i : Nat} (g : Nat → Nat) : ∀ {q}, pv hs h q = i + 1 → sc hs h g q = sc hs h g i + g i := by
  intro q
  induction q with
  | zero => intro e; cases e
  | succ q ih =>
    intro e
    rw [pv] at e
    unfold sc at ih ⊢
    by_cases c : hs q = h
    · rw [if_pos c] at e
      have : q = i := by omega
      subst this
      rw [fb_sm_succ, if_pos c]
    · rw [if_neg c] at e
      rw [fb_sm_succ, if_neg c, Nat.add_zero]
      exact ih e
theorem sc_cong {hs hs' : Nat → Nat} {h q : Nat} {g g' : Nat → Nat} (h1 : ∀ k, k < q → hs' k = hs k) (h2 : ∀ k, k < q → hs k = h → g' k = g k) : sc hs' h g' q = sc hs h g q := fb_sm_cong (fun k hk => by
  rw [h1 k hk]
  by_cases c : hs k = h
  · rw [if_pos c, if_pos c, h2 k hk c]
  · rw [if_neg c, if_neg c])
theorem sc_ext {hs hs' : Nat → Nat} {h q q' : Nat} {g g' : Nat → Nat} (hq : q ≤ q') (h1 : ∀ k, k < q → hs' k = hs k) (h2 : ∀ k, k < q → hs k = h → g' k = g k) (h3 : ∀ k, q ≤ k → k < q' → hs' k ≠ h) : sc hs' h g' q' = sc hs h g q := by
  obtain ⟨d, rfl⟩ : ∃ d, q' = q + d := ⟨q' - q, by omega⟩
  have e : sc hs' h g' (q + d) = sc hs' h g' q := by
    unfold sc
    rw [fb_sm_split, sm_0 (f := fun k => if hs' (q + k) = h then g' (q + k) else 0) (fun k hk => if_neg (h3 (q + k) (by omega) (by omega))), Nat.add_zero]
  rw [e]
  exact sc_cong h1 h2
/-- m parcels: heir, value as it came, value that stands there, times, the numbers divided by; from heir w on values stand as they came -/
def PK (S : St) (P : Nat → Nat → Nat) (n Y v w m : Nat) (hs vs av ts : Nat → Nat) (es : Nat → Nat → Nat) : Prop := gI S 1 0 7 = nI m ∧ m ≤ gC S ∧ CapI S ∧ (∀ i, i < m → gA S 82 0 i = cI (pv hs (hs i) i) ∧ gB S 83 0 i = lN (av i) ∧ gB S 84 0 i = lN (ts i) ∧ hs i < n ∧ av i ≤ W12) ∧ (∀ i j, i < j → j < m → ¬ (hs i = hs j ∧ vs i = vs j)) ∧ (∀ i, i < m → (1 ≤ i → 1 ≤ hs i) ∧ (∀ k, es i k ≤ AA P n Y (hs i) k) ∧ vs i = v / vl (es i) 10) ∧ (∀ h, h < n → gA S 81 0 h = cI (pv hs h m)) ∧ (∀ i, i < m → w ≤ hs i → av i = vs i)
theorem PK.max {S : St} {P : Nat → Nat → Nat} {n Y v w m : Nat} {hs vs av ts : Nat → Nat} {es : Nat → Nat → Nat} (h : PK S P n Y v w m hs vs av ts es) (hf : Fam P n) (hn : n ≤ 30) : m ≤ 16140 := prc_max (Y := Y) (v := v) (es := es) hf hn h.2.2.2.2.1 (fun i h1 h2 => by
  obtain ⟨a, b, c⟩ := h.2.2.2.2.2.1 i h2
  exact ⟨a h1, (h.2.2.2.1 i h2).2.2.2.1, b, c⟩)
theorem lg_eq0 (x y : Int64) : lg_cmp x y = 0 ↔ x = y := by
  unfold lg_cmp
  by_cases h : x > y
  · rw [if_pos h]
    refine ⟨fun q => absurd q (by decide), fun q => ?_⟩
    subst q
    exact absurd (Int64.lt_iff_toInt_lt.mp h) (by omega)
  · rw [if_neg h]
    by_cases h2 : x = y
    · rw [if_pos h2]; exact ⟨fun _ => h2, fun _ => rfl⟩
    · rw [if_neg h2]; exact ⟨fun q => absurd q (by decide), fun q => absurd q h2⟩
theorem C_find {S : St} {P : Nat → Nat → Nat} {n Y v w0 m : Nat} {hs vs av ts : Nat → Nat} {es : Nat → Nat → Nat} (h : PK S P n Y v w0 m hs vs av ts es) (F : Nat) {w y : Nat} (hm : m ≤ 16140) (hy : y ≤ W12) (y4 : Int64) (k37 : Int32 → Option St) (k65 : Option St) : ∀ f q c, q < f → c + q ≤ m → (∀ k, q ≤ k → k < m → ¬ (hs k = w ∧ av k = y)) → (∃ k, k < m ∧ hs k = w ∧ av k = y ∧ fX1_send_L11 F S (nI w) (lN y) y4 k37 k65 f (cI (pv hs w q)) (nI c) = k37 (nI k)) ∨ ((∀ k, k < m → ¬ (hs k = w ∧ av k = y)) ∧ fX1_send_L11 F S (nI w) (lN y) y4 k37 k65 f (cI (pv hs w q)) (nI c) = k65) := by
  have hW : W12 < 2 ^ 63 := by decide
  obtain ⟨p1, p2, p3, p4, p5, p6, p7, p8⟩ := h
  have p32 := p3.2
  intro f
  induction f with
  | zero => intro q c q1 q2; omega
  | succ f ih =>
    intro q c q1 q2 q3
    simp only [fX1_send_L11, fX1_send_b11, p1]
    by_cases e : m ≤ c
    · right
      exact ⟨fun k hk => q3 k (by omega) hk, by rw [if_pos (c_le e (by omega))]⟩
    · rw [if_neg (c_nle (show c < m by omega) (by omega))]
      cases e0 : pv hs w q with
      | zero =>
        right
        refine ⟨fun k hk => ?_, by rw [if_pos cI_0]⟩
        by_cases ek : k < q
        · exact fun z => pv_0 e0 k ek z.1
        · exact q3 k (by omega) hk
      | succ i =>
        obtain ⟨i1, i2, i3⟩ := pv_s e0
        have hi : i < m := by omega
        obtain ⟨a1, a2, a3, a4, a5⟩ := p4 i hi
        rw [if_neg (cI_s (show i < 2147483648 by omega)), show cI (i + 1) = nI i from rfl, ix_nI (show i < gC S by omega) (by omega), gd_t, gd_t, cl (show i < 2147483648 by omega), a1, a2, nI_a1, bnd_e, i2]
        by_cases e2 : av i = y
        · left
          exact ⟨i, hi, i2, e2, by rw [if_pos ((lg_eq0 _ _).mpr (by rw [e2]))]⟩
        · rw [if_neg (fun z => e2 ((pk_lEQ (by omega) (by omega)).mp ((lg_eq0 _ _).mp z)))]
          exact ih i (c + 1) (by omega) (by omega) (fun k hk hk2 => by
            by_cases ek : k = i
            · subst ek; exact fun z => e2 z.2
            · by_cases ek2 : k < q
              · exact fun z => i3 k (by omega) ek2 z.1
              · exact q3 k (by omega) hk2)
theorem grow_A (S : St) (c n i : Nat) : gA (grow S) c n i = if c = 82 ∧ n = 0 then (if i < gC S then gA S 82 0 i else 0) else gA S c n i := rfl
theorem grow_B (S : St) (c n i : Nat) : gB (grow S) c n i = if (c = 83 ∨ c = 84) ∧ n = 0 then (if i < gC S then gB S c 0 i else 0) else gB S c n i := rfl
theorem grow_ch (S : St) : Ch 99 S (grow S) := by
  refine ⟨fun _ _ _ _ _ => rfl, fun c n j a b => ?_⟩
  rw [grow_A]
  by_cases e : c = 82 ∧ n = 0
  · exfalso; obtain ⟨e1, e2⟩ := e
    subst e1; subst e2
    exact b rfl
  · rw [if_neg e]
theorem C_room {S : St} {m : Nat} (h1 : gI S 1 0 7 = nI m) (h2 : m ≤ gC S) (h3 : CapI S) (h4 : m < 16384) : ∃ S1, fX1_makeRoom S = some S1 ∧ Ch 99 S S1 ∧ gI S1 = gI S ∧ gJ S1 = gJ S ∧ (∀ i, i < m → gA S1 82 0 i = gA S 82 0 i ∧ gB S1 83 0 i = gB S 83 0 i ∧ gB S1 84 0 i = gB S 84 0 i) ∧ (∀ x, gB S1 18 0 x = gB S 18 0 x) ∧ (∀ x, gA S1 81 0 x = gA S 81 0 x) ∧ m < gC S1 ∧ gC S ≤ gC S1 ∧ gC S1 ≤ 32768 := by
  obtain ⟨c1, c2⟩ := h3
  unfold fX1_makeRoom
  rw [h1]
  by_cases e : m = gC S
  · have e1 : nI m = Int32.ofNat (gC S) := by rw [e]; rfl
    have e2 : nI m < 16384 := c_lt (b := 16384) h4 (by decide)
    rw [if_pos e1, if_pos e2, gd_p ⟨c1, by omega⟩]
    have gc : gC (grow S) = 2 * gC S := rfl
    refine ⟨grow S, rfl, grow_ch S, rfl, rfl, fun i hi => ⟨?_, ?_, ?_⟩, fun x => ?_, fun x => ?_, by omega, by omega, by omega⟩
    · rw [grow_A, if_pos ⟨rfl, rfl⟩, if_pos (by omega)]
    · rw [grow_B, if_pos ⟨Or.inl rfl, rfl⟩, if_pos (by omega)]
    · rw [grow_B, if_pos ⟨Or.inr rfl, rfl⟩, if_pos (by omega)]
    · rw [grow_B, if_neg (by omega)]
    · rw [grow_A, if_neg (by omega)]
  · have e1 : ¬ nI m = Int32.ofNat (gC S) := c_ne (b := gC S) e (by omega) (by omega)
    rw [if_neg e1]
    exact ⟨S, rfl, Ch.rf _ _, rfl, rfl, fun i _ => ⟨rfl, rfl, rfl⟩, fun x => rfl, fun x => rfl, by omega, by omega, by omega⟩
theorem C_put {S S1 : St} {P : Nat → Nat → Nat} {n Y v w0 m w y t : Nat} {hs vs av ts : Nat → Nat} {es : Nat → Nat → Nat} {e : Nat → Nat} (h : PK S P n Y v w0 m hs vs av ts es) (hm : m ≤ 16140) (hn : n ≤ 30) (hw : w < n) (hy : y ≤ W12) (hw0 : w0 ≤ w) (h1 : 1 ≤ m → 1 ≤ w) (he : ∀ k, e k ≤ AA P n Y w k) (hv : y = v / vl e 10) (k1 : ∀ k, k < m → ¬ (hs k = w ∧ av k = y)) (r2 : Ch 99 S S1) (r3 : gI S1 = gI S) (r4 : gJ S1 = gJ S) (r5 : ∀ i, i < m → gA S1 82 0 i = gA S 82 0 i ∧ gB S1 83 0 i = gB S 83 0 i ∧ gB S1 84 0 i = gB S 84 0 i) (r6 : ∀ x, gB S1 18 0 x = gB S 18 0 x) (r6b : ∀ x, gA S1 81 0 x = gA S 81 0 x) (r7 : m < gC S1) (r8 : gC S ≤ gC S1) (r9 : gC S1 ≤ 32768) (hr : fX1_makeRoom S = some S1) (F : Nat) : ∃ S', fX1_send_j65 F S (nI w) (lN y) (lN t) = some S' ∧ Ch 99 S S' ∧ gC S ≤ gC S' ∧ PK S' P n Y v w0 (m + 1) (fun i => if i = m then w else hs i) (fun i => if i = m then y else vs i) (fun i => if i = m then y else av i) (fun i => if i = m then t else ts i) (fun i => if i = m then e else es i) ∧ (∀ x, gB S' 18 0 x = gB S 18 0 x) ∧ gJ S' = gJ S := by
  obtain ⟨p1, p2, p3, p4, p5, p6, p7, p8⟩ := id h
  have p32 := p3.2
  obtain ⟨S7, e7⟩ : ∃ S7 : St, S7 = pI (pA (pB (pB (pA S1 82 0 m (cI (pv hs w m))) 83 0 m (lN y)) 84 0 m (lN t)) 81 0 w (nI m)) 1 0 7 (nI (m + 1)) := ⟨_, rfl⟩
  have ch7 : Ch 99 S S7 := by
    rw [e7]
    exact Ch.pI (Ch.pA (Ch.pB (Ch.pB (Ch.pA r2 _ (Or.inr rfl)) _ _ _ _) _ _ _ _) _ (Or.inr rfl)) _ (Or.inr rfl)
  have g7 : gC S7 = gC S1 := by rw [e7]; rfl
  have below : ∀ k, k < m → (if k = m then w else hs k) = hs k := fun k hk => if_neg (by omega)
  refine ⟨S7, ?_, ch7, by omega, ⟨by rw [e7, gI_ps], by omega, ⟨by omega, by omega⟩, fun i hi => ?_, fun i j hij hj => ?_, fun i hi => ?_, fun x hx => ?_, fun i hi hi2 => ?_⟩, fun x => ?_, ?_⟩
  · have gi1 : gI S1 1 0 7 = nI m := by rw [r3]; exact p1
    have ga1 : gA S1 81 0 w = cI (pv hs w m) := by rw [r6b]; exact p7 w hw
    unfold fX1_send_j65
    rw [hr, cal_s, gi1]
    rw [if_neg (show ¬ Int32.ofNat (gC S1) ≤ nI m from c_nle (a := gC S1) r7 (by omega))]
    simp only [bnd_e, gI_pA, gI_pB, gC_pA, gC_pB, gi1, ix_nI (show w < 30 by omega) (by decide), ix_nI (show m < gC S1 by omega) (show gC S1 < 2147483648 by omega), gd_t, cl (show m < 2147483648 by omega), cl (show w < 2147483648 by omega), nI_a1, ga1]
    rw [e7]
  · dsimp only
    by_cases ei : i = m
    · subst ei
      refine ⟨?_, by rw [e7, gB_pI, gB_pA, gB_pc _ _ _ _ _ _ (by decide), gB_ps, if_pos rfl], by rw [e7, gB_pI, gB_pA, gB_ps, if_pos rfl], ?_, ?_⟩
      · rw [e7, gA_pI, gA_pc _ _ _ _ _ _ (by decide), gA_pB, gA_pB, gA_ps, if_pos rfl, pv_cong below]
      · rw [if_pos rfl]; exact hw
      · rw [if_pos rfl]; exact hy
    · obtain ⟨b1, b2, b3, b4, b5⟩ := p4 i (by omega)
      obtain ⟨d1, d2, d3⟩ := r5 i (by omega)
      refine ⟨?_, ?_, ?_, ?_, ?_⟩
      · rw [e7, gA_pI, gA_pc _ _ _ _ _ _ (by decide), gA_pB, gA_pB, gA_pi _ _ _ _ _ _ ei, if_neg ei, d1, b1, pv_cong (fun k hk => below k (by omega))]
      · rw [e7, gB_pI, gB_pA, gB_pc _ _ _ _ _ _ (by decide), gB_pi _ _ _ _ _ _ ei, gB_pA, if_neg ei, d2]; exact b2
      · rw [e7, gB_pI, gB_pA, gB_pi _ _ _ _ _ _ ei, gB_pc _ _ _ _ _ _ (by decide), gB_pA, if_neg ei, d3]; exact b3
      · rw [if_neg ei]; exact b4
      · rw [if_neg ei]; exact b5
  · dsimp only
    by_cases ej : j = m
    · subst ej
      rw [if_pos rfl, if_pos rfl, if_neg (by omega), if_neg (by omega)]
      intro z
      exact k1 i hij ⟨z.1, (p8 i hij (by omega)).trans z.2⟩
    · rw [if_neg ej, if_neg ej, if_neg (by omega), if_neg (by omega)]
      exact p5 i j hij (by omega)
  · dsimp only
    by_cases ei : i = m
    · subst ei
      rw [if_pos rfl, if_pos rfl, if_pos rfl]
      exact ⟨h1, he, hv⟩
    · rw [if_neg ei, if_neg ei, if_neg ei]
      exact p6 i (by omega)
  · show gA S7 81 0 x = cI (if (if m = m then w else hs m) = x then m + 1 else pv (fun i => if i = m then w else hs i) x m)
    rw [if_pos (show m = m from rfl)]
    by_cases ex : x = w
    · subst ex
      rw [if_pos rfl, e7, gA_pI, gA_ps]; rfl
    · rw [if_neg (Ne.symm ex), pv_cong below, e7, gA_pI, gA_pi _ _ _ _ _ _ ex, gA_pB, gA_pB, gA_pc _ _ _ _ _ _ (by decide), r6b]
      exact p7 x hx
  · dsimp only at hi2 ⊢
    by_cases ei : i = m
    · rw [if_pos ei, if_pos ei]
    · rw [if_neg ei] at hi2
      rw [if_neg ei, if_neg ei]
      exact p8 i (by omega) hi2
  · rw [e7, gB_pI, gB_pA, gB_pc _ _ _ _ _ _ (by decide), gB_pc _ _ _ _ _ _ (by decide), gB_pA]; exact r6 x
  · rw [e7]; exact r4
theorem C_send {S : St} {P : Nat → Nat → Nat} {n Y v w0 m : Nat} {hs vs av ts : Nat → Nat} {es : Nat → Nat → Nat} (h : PK S P n Y v w0 m hs vs av ts es) (hf : Fam P n) (hn : n ≤ 30) (F : Nat) (hF : 100000 ≤ F) {w y t : Nat} {e : Nat → Nat} (hw : w < n) (hy : y ≤ W12) (hw0 : w0 ≤ w) (h1 : 1 ≤ m → 1 ≤ w) (he : ∀ k, e k ≤ AA P n Y w k) (hv : y = v / vl e 10) : ∃ (S' : St) (m' : Nat) (hs' vs' av' ts' : Nat → Nat) (es' : Nat → Nat → Nat), fX1_send F S (nI w) (lN y) (lN t) = some S' ∧ Ch 99 S S' ∧ gC S ≤ gC S' ∧ PK S' P n Y v w0 m' hs' vs' av' ts' es' ∧ (∀ x, gB S' 18 0 x = gB S 18 0 x) ∧ gJ S' = gJ S ∧ m ≤ m' ∧ (∀ i, i < m → hs' i = hs i ∧ vs' i = vs i ∧ av' i = av i ∧ es' i = es i ∧ (hs i ≠ w → ts' i = ts i)) ∧ (∀ i, m ≤ i → i < m' → hs' i = w) ∧ ∀ f : Nat → Nat → Nat, fb_sm (fun i => ts' i * f (hs' i) (vs' i)) m' = fb_sm (fun i => ts i * f (hs i) (vs i)) m + t * f w y := by
  have hmax := h.max hf hn
  obtain ⟨p1, p2, p3, p4, p5, p6, p7, p8⟩ := id h
  have p32 := p3.2
  unfold fX1_send
  rw [ix_nI (show w < 30 by omega) (by decide), gd_t, bnd_e, cl (show w < 2147483648 by omega), p7 w hw]
  rcases C_find h F (w := w) hmax hy (lN t) (fun x6_3 => gd (ix x6_3 (gC S)) <| gd (ix x6_3 (gC S)) <| bnd (pB S 84 0 x6_3.toNatClampNeg ((gB S 84 0 x6_3.toNatClampNeg) + lN t)) fun S_4 => some S_4) (fX1_send_j65 F S (nI w) (lN y) (lN t)) F m 0 (by omega) (by omega) (fun k a b => by omega) with ⟨k, k1, k2, k3, k4⟩ | ⟨k1, k4⟩
  · obtain ⟨a1, a2, a3, a4, a5⟩ := p4 k k1
    refine ⟨pB S 84 0 k (lN (ts k + t)), m, hs, vs, av, fun i => if i = k then ts k + t else ts i, es, ?_, (Ch.rf 99 S).pB _ _ _ _, Nat.le_refl _, ⟨p1, p2, p3, fun i hi => ?_, p5, p6, p7, p8⟩, fun x => gB_pc _ _ _ _ _ _ (by decide), rfl, Nat.le_refl _, fun i hi => ⟨rfl, rfl, rfl, rfl, fun z => ?_⟩, fun i hi hj => by omega, fun f => ?_⟩
    · refine Eq.trans k4 ?_
      simp only [ix_nI (show k < gC S by omega) (by omega), gd_t, cl (show k < 2147483648 by omega), bnd_e, a3, lN_add]
    · dsimp only
      obtain ⟨b1, b2, b3, b4, b5⟩ := p4 i hi
      refine ⟨b1, (gB_pc _ _ _ _ _ _ (by decide)).trans b2, ?_, b4, b5⟩
      by_cases ei : i = k
      · subst ei; rw [gB_ps, if_pos rfl]
      · rw [gB_pi _ _ _ _ _ _ ei, if_neg ei]; exact b3
    · dsimp only
      rw [if_neg (fun q => z (by rw [q]; exact k2))]
    · dsimp only
      have vy : vs k = y := (p8 k k1 (by omega)).symm.trans k3
      have d : f (hs k) (vs k) = f w y := by rw [k2, vy]
      obtain ⟨g, hg⟩ : ∃ g, g = (ts k + t) * f w y := ⟨_, rfl⟩
      have hg2 : g = ts k * f w y + t * f w y := by rw [hg, Nat.add_mul]
      have u := fb_sm_upd (fun i => ts i * f (hs i) (vs i)) g k1
      have c : fb_sm (fun i => (if i = k then ts k + t else ts i) * f (hs i) (vs i)) m = fb_sm (fun i => if i = k then g else ts i * f (hs i) (vs i)) m := fb_sm_cong (fun i _ => by
        by_cases ei : i = k
        · subst ei; rw [if_pos rfl, if_pos rfl, d, hg]
        · rw [if_neg ei, if_neg ei])
      rw [c]
      rw [d] at u
      omega
  · obtain ⟨S1, r1, r2, r3, r4, r5, r6, r6b, r7, r8, r9⟩ := C_room p1 p2 p3 (by omega)
    obtain ⟨S', s1, s2, s3, s4, s5, s6⟩ := C_put (t := t) h hmax hn hw hy hw0 h1 he hv k1 r2 r3 r4 r5 r6 r6b r7 r8 r9 r1 F
    refine ⟨S', m + 1, _, _, _, _, _, Eq.trans k4 s1, s2, s3, s4, s5, s6, by omega, fun i hi => ?_, fun i hi hj => ?_, fun f => ?_⟩
    · rw [if_neg (by omega), if_neg (by omega), if_neg (by omega), if_neg (by omega), if_neg (by omega)]
      exact ⟨rfl, rfl, rfl, rfl, fun _ => rfl⟩
    · rw [if_pos (by omega)]
    · rw [fb_sm_succ, if_pos rfl, if_pos rfl, if_pos rfl]
      congr 1
      refine fb_sm_cong (fun i hi => ?_)
      rw [if_neg (by omega), if_neg (by omega), if_neg (by omega)]
