/-! PARCELS OF THE CLASS -/
def TC (S : St) (n : Nat) (T : Nat → Nat) (L : Nat) : Prop := (∀ x, x < n → gB S 18 0 x = lN (T x)) ∧ gJ S 1 0 2 = lN L
def CapI (S : St) : Prop := 0 < gC S ∧ gC S ≤ 32768
def PK (S : St) (P : Nat → Nat → Nat) (n Y v m : Nat) (hs vs ts : Nat → Nat) (es : Nat → Nat → Nat) : Prop := gI S 1 0 6 = nI m ∧ m ≤ gC S ∧ CapI S ∧ (∀ i, i < m → gA S 81 0 i = nI (hs i) ∧ gB S 82 0 i = lN (vs i) ∧ gB S 83 0 i = lN (ts i) ∧ hs i < n ∧ vs i ≤ W12) ∧ (∀ i j, i < j → j < m → ¬ (hs i = hs j ∧ vs i = vs j)) ∧ (∀ i, i < m → (1 ≤ i → 1 ≤ hs i) ∧ (∀ k, es i k ≤ AA P n Y (hs i) k) ∧ vs i = v / vl (es i) 10)
theorem PK.max {S : St} {P : Nat → Nat → Nat} {n Y v m : Nat} {hs vs ts : Nat → Nat} {es : Nat → Nat → Nat} (h : PK S P n Y v m hs vs ts es) (hf : Fam P n) (hn : n ≤ 30) : m ≤ 16140 := prc_max (Y := Y) (v := v) (es := es) hf hn h.2.2.2.2.1 (fun i h1 h2 => by
  obtain ⟨a, b, c⟩ := h.2.2.2.2.2 i h2
  exact ⟨a h1, (h.2.2.2.1 i h2).2.2.2.1, b, c⟩)
theorem lg_eq0 (x y : Int64) : lg_cmp x y = 0 ↔ x = y := by
  unfold lg_cmp
  by_cases h : x > y
  · rw [if_pos h]
    refine ⟨fun q => absurd q (by decide), fun q => ?_⟩
    subst q
    exact absurd (Int64.lt_iff_toInt_lt.mp h) (by omega)
  · rw [if_neg h]
    by_cases h2 : x = y
    · rw [if_pos h2]; exact ⟨fun _ => h2, fun _ => rfl⟩
    · rw [if_neg h2]; exact ⟨fun q => absurd q (by decide), fun q => absurd q h2⟩
theorem C_find {S : St} {P : Nat → Nat → Nat} {n Y v m : Nat} {hs vs ts : Nat → Nat} {es : Nat → Nat → Nat} (h : PK S P n Y v m hs vs ts es) (F : Nat) {w y : Nat} (hw : w < 30) (hn : n ≤ 30) (hy : y ≤ W12) (y4 : Int64) (k35 : Int32 → Option St) (k54 : Option St) : ∀ f i, i ≤ m → m < i + f → (∀ k, k < i → ¬ (hs k = w ∧ vs k = y)) → (∃ k, k < m ∧ hs k = w ∧ vs k = y ∧ fX1_send_L3 F S (nI w) (lN y) y4 k35 k54 f (nI i) = k35 (nI k)) ∨ ((∀ k, k < m → ¬ (hs k = w ∧ vs k = y)) ∧ fX1_send_L3 F S (nI w) (lN y) y4 k35 k54 f (nI i) = k54) := by
  have hW : W12 < 2 ^ 63 := by decide
  obtain ⟨p1, p2, p3, p4, p5, p6⟩ := h
  have p32 := p3.2
  intro f
  induction f with
  | zero => intro i q1 q2; omega
  | succ f ih =>
    intro i q1 q2 q3
    simp only [fX1_send_L3, fX1_send_b3, p1]
    by_cases e : i = m
    · subst e
      right
      exact ⟨q3, by rw [if_pos (c_le (Nat.le_refl _) (by omega))]⟩
    · have hi : i < m := by omega
      obtain ⟨a1, a2, a3, a4, a5⟩ := p4 i hi
      rw [if_neg (c_nle hi (by omega)), ix_nI (show i < gC S by omega) (by omega), gd_t, gd_t, cl (show i < 2147483648 by omega), a1, a2, nI_a1]
      by_cases e1 : hs i = w
      · rw [if_pos (show nI (hs i) = nI w by rw [e1])]
        by_cases e2 : vs i = y
        · left
          exact ⟨i, hi, e1, e2, by rw [if_pos ((lg_eq0 _ _).mpr (by rw [e2]))]⟩
        · rw [if_neg (fun q => e2 ((pk_lEQ (by omega) (by omega)).mp ((lg_eq0 _ _).mp q)))]
          exact ih (i + 1) (by omega) (by omega) (fun k hk => by
            by_cases ek : k = i
            · subst ek; exact fun z => e2 z.2
            · exact q3 k (by omega))
      · rw [if_neg (c_ne e1 (by omega) (by omega))]
        exact ih (i + 1) (by omega) (by omega) (fun k hk => by
          by_cases ek : k = i
          · subst ek; exact fun z => e1 z.1
          · exact q3 k (by omega))
theorem grow_A (S : St) (c n i : Nat) : gA (grow S) c n i = if c = 81 ∧ n = 0 then (if i < gC S then gA S 81 0 i else 0) else gA S c n i := rfl
theorem grow_B (S : St) (c n i : Nat) : gB (grow S) c n i = if (c = 82 ∨ c = 83) ∧ n = 0 then (if i < gC S then gB S c 0 i else 0) else gB S c n i := rfl
theorem grow_ch (S : St) : Ch 99 S (grow S) := by
  refine ⟨fun _ _ _ _ _ => rfl, fun c n j a b => ?_⟩
  rw [grow_A]
  by_cases e : c = 81 ∧ n = 0
  · exfalso; obtain ⟨e1, e2⟩ := e
    subst e1; subst e2
    exact b rfl
  · rw [if_neg e]
theorem C_room {S : St} {m : Nat} (h1 : gI S 1 0 6 = nI m) (h2 : m ≤ gC S) (h3 : CapI S) (h4 : m < 16384) : ∃ S1, fX1_makeRoom S = some S1 ∧ Ch 99 S S1 ∧ gI S1 = gI S ∧ gJ S1 = gJ S ∧ (∀ i, i < m → gA S1 81 0 i = gA S 81 0 i ∧ gB S1 82 0 i = gB S 82 0 i ∧ gB S1 83 0 i = gB S 83 0 i) ∧ (∀ x, gB S1 18 0 x = gB S 18 0 x) ∧ m < gC S1 ∧ gC S ≤ gC S1 ∧ gC S1 ≤ 32768 := by
  obtain ⟨c1, c2⟩ := h3
  unfold fX1_makeRoom
  rw [h1]
  by_cases e : m = gC S
  · have e1 : nI m = Int32.ofNat (gC S) := by rw [e]; rfl
    have e2 : nI m < 16384 := c_lt (b := 16384) h4 (by decide)
    rw [if_pos e1, if_pos e2, gd_p ⟨c1, by omega⟩]
    have gc : gC (grow S) = 2 * gC S := rfl
    refine ⟨grow S, rfl, grow_ch S, rfl, rfl, fun i hi => ⟨?_, ?_, ?_⟩, fun x => ?_, by omega, by omega, by omega⟩
    · rw [grow_A, if_pos ⟨rfl, rfl⟩, if_pos (by omega)]
    · rw [grow_B, if_pos ⟨Or.inl rfl, rfl⟩, if_pos (by omega)]
    · rw [grow_B, if_pos ⟨Or.inr rfl, rfl⟩, if_pos (by omega)]
    · rw [grow_B, if_neg (by omega)]
  · have e1 : ¬ nI m = Int32.ofNat (gC S) := c_ne (b := gC S) e (by omega) (by omega)
    rw [if_neg e1]
    exact ⟨S, rfl, Ch.rf _ _, rfl, rfl, fun i _ => ⟨rfl, rfl, rfl⟩, fun x => rfl, by omega, by omega, by omega⟩
theorem C_send {S : St} {P : Nat → Nat → Nat} {n Y v m : Nat} {hs vs ts : Nat → Nat} {es : Nat → Nat → Nat} (h : PK S P n Y v m hs vs ts es) (hf : Fam P n) (hn : n ≤ 30) (F : Nat) (hF : 100000 ≤ F) {w y t : Nat} {e : Nat → Nat} (hw : w < n) (hy : y ≤ W12) (h1 : 1 ≤ m → 1 ≤ w) (he : ∀ k, e k ≤ AA P n Y w k) (hv : y = v / vl e 10) : ∃ (S' : St) (m' : Nat) (hs' vs' ts' : Nat → Nat) (es' : Nat → Nat → Nat), fX1_send F S (nI w) (lN y) (lN t) = some S' ∧ Ch 99 S S' ∧ gC S ≤ gC S' ∧ PK S' P n Y v m' hs' vs' ts' es' ∧ (∀ x, gB S' 18 0 x = gB S 18 0 x) ∧ gJ S' = gJ S ∧ m ≤ m' ∧ (∀ i, i < m → hs' i = hs i ∧ vs' i = vs i ∧ es' i = es i) ∧ (∀ i, m ≤ i → i < m' → hs' i = w) ∧ ∀ f : Nat → Nat → Nat → Nat, (∀ i j, f i w y = f j w y) → fb_sm (fun i => ts' i * f i (hs' i) (vs' i)) m' = fb_sm (fun i => ts i * f i (hs i) (vs i)) m + t * f 0 w y := by
  have hmax := h.max hf hn
  obtain ⟨p1, p2, p3, p4, p5, p6⟩ := id h
  have p32 := p3.2
  unfold fX1_send
  rcases C_find h F (show w < 30 by omega) hn hy (lN t) (fun x6_1 => gd (ix x6_1 (gC S)) <| gd (ix x6_1 (gC S)) <| bnd (pB S 83 0 x6_1.toNatClampNeg ((gB S 83 0 x6_1.toNatClampNeg) + lN t)) fun S_2 => some S_2) (cal (fX1_makeRoom S) fun b_3 => if (Int32.ofNat (gC b_3)) ≤ (gI b_3 1 0 6) then some b_3 else gd (ix (gI b_3 1 0 6) (gC b_3)) <| bnd (pA b_3 81 0 (gI b_3 1 0 6).toNatClampNeg (nI w)) fun S_4 => gd (ix (gI S_4 1 0 6) (gC S_4)) <| bnd (pB S_4 82 0 (gI S_4 1 0 6).toNatClampNeg (lN y)) fun S_5 => gd (ix (gI S_5 1 0 6) (gC S_5)) <| bnd (pB S_5 83 0 (gI S_5 1 0 6).toNatClampNeg (lN t)) fun S_6 => bnd (pI S_6 1 0 6 ((gI S_6 1 0 6) + 1)) fun S_7 => some S_7) F 0 (Nat.zero_le _) (by omega) (fun k hk => by omega) with ⟨k, k1, k2, k3, k4⟩ | ⟨k1, k4⟩
  · obtain ⟨a1, a2, a3, a4, a5⟩ := p4 k k1
    refine ⟨pB S 83 0 k (lN (ts k + t)), m, hs, vs, fun i => if i = k then ts k + t else ts i, es, ?_, (Ch.rf 99 S).pB _ _ _ _, Nat.le_refl _, ⟨p1, p2, p3, fun i hi => ?_, p5, p6⟩, fun x => gB_pc _ _ _ _ _ _ (by decide), rfl, Nat.le_refl _, fun i hi => ⟨rfl, rfl, rfl⟩, fun i hi hj => by omega, fun f hff => ?_⟩
    · refine Eq.trans k4 ?_
      simp only [ix_nI (show k < gC S by omega) (by omega), gd_t, cl (show k < 2147483648 by omega), bnd_e, a3, lN_add]
    · dsimp only
      obtain ⟨b1, b2, b3, b4, b5⟩ := p4 i hi
      refine ⟨b1, (gB_pc _ _ _ _ _ _ (by decide)).trans b2, ?_, b4, b5⟩
      by_cases ei : i = k
      · subst ei; rw [gB_ps, if_pos rfl]
      · rw [gB_pi _ _ _ _ _ _ ei, if_neg ei]; exact b3
    · dsimp only
      have d : f k (hs k) (vs k) = f 0 w y := by rw [k2, k3]; exact hff _ _
      obtain ⟨g, hg⟩ : ∃ g, g = (ts k + t) * f 0 w y := ⟨_, rfl⟩
      have hg2 : g = ts k * f 0 w y + t * f 0 w y := by rw [hg, Nat.add_mul]
      have u := fb_sm_upd (fun i => ts i * f i (hs i) (vs i)) g k1
      have c : fb_sm (fun i => (if i = k then ts k + t else ts i) * f i (hs i) (vs i)) m = fb_sm (fun i => if i = k then g else ts i * f i (hs i) (vs i)) m := fb_sm_cong (fun i _ => by
        by_cases ei : i = k
        · subst ei; rw [if_pos rfl, if_pos rfl, d, hg]
        · rw [if_neg ei, if_neg ei])
      rw [c]
      rw [d] at u
      omega
  · obtain ⟨S1, r1, r2, r3, r4, r5, r6, r7, r8, r9⟩ := C_room p1 p2 p3 (by omega)
    obtain ⟨S7, e7⟩ : ∃ S7 : St, S7 = pI (pB (pB (pA S1 81 0 m (nI w)) 82 0 m (lN y)) 83 0 m (lN t)) 1 0 6 (nI (m + 1)) := ⟨_, rfl⟩
    have ch7 : Ch 99 S S7 := by
      rw [e7]
      exact Ch.pI (Ch.pB (Ch.pB (Ch.pA r2 _ (Or.inr rfl)) _ _ _ _) _ _ _ _) _ (Or.inr rfl)
    have g7 : gC S7 = gC S1 := by rw [e7]; rfl
    refine ⟨S7, m + 1, fun i => if i = m then w else hs i, fun i => if i = m then y else vs i, fun i => if i = m then t else ts i, fun i => if i = m then e else es i, ?_, ch7, by omega, ⟨by rw [e7, gI_ps], by omega, ⟨by omega, by omega⟩, fun i hi => ?_, fun i j hij hj => ?_, fun i hi => ?_⟩, fun x => ?_, ?_, by omega, fun i hi => ?_, fun i hi hj => ?_, fun f hff => ?_⟩
    · refine Eq.trans k4 ?_
      have gi1 : gI S1 1 0 6 = nI m := by rw [r3]; exact p1
      rw [r1, cal_s]
      simp only [gi1, gI_pA, gI_pB, gC_pA, gC_pB]
      rw [if_neg (show ¬ Int32.ofNat (gC S1) ≤ nI m from c_nle (a := gC S1) r7 (by omega))]
      simp only [bnd_e, gI_pA, gI_pB, gC_pA, gC_pB, gi1, ix_nI (show m < gC S1 by omega) (show gC S1 < 2147483648 by omega), gd_t, cl (show m < 2147483648 by omega), nI_a1]
      rw [e7]
    · dsimp only
      by_cases ei : i = m
      · subst ei
        refine ⟨by rw [e7, gA_pI, gA_pB, gA_pB, gA_ps, if_pos rfl], by rw [e7, gB_pI, gB_pc _ _ _ _ _ _ (by decide), gB_ps, if_pos rfl], by rw [e7, gB_pI, gB_ps, if_pos rfl], ?_, ?_⟩
        · rw [if_pos rfl]; exact hw
        · rw [if_pos rfl]; exact hy
      · obtain ⟨b1, b2, b3, b4, b5⟩ := p4 i (by omega)
        obtain ⟨d1, d2, d3⟩ := r5 i (by omega)
        refine ⟨?_, ?_, ?_, ?_, ?_⟩
        · rw [e7, gA_pI, gA_pB, gA_pB, gA_pi _ _ _ _ _ _ ei, if_neg ei, d1]; exact b1
        · rw [e7, gB_pI, gB_pc _ _ _ _ _ _ (by decide), gB_pi _ _ _ _ _ _ ei, gB_pA, if_neg ei, d2]; exact b2
        · rw [e7, gB_pI, gB_pi _ _ _ _ _ _ ei, gB_pc _ _ _ _ _ _ (by decide), gB_pA, if_neg ei, d3]; exact b3
        · rw [if_neg ei]; exact b4
        · rw [if_neg ei]; exact b5
    · dsimp only
      by_cases ej : j = m
      · subst ej
        rw [if_pos rfl, if_pos rfl, if_neg (by omega), if_neg (by omega)]
        exact k1 i hij
      · rw [if_neg ej, if_neg ej, if_neg (by omega), if_neg (by omega)]
        exact p5 i j hij (by omega)
    · dsimp only
      by_cases ei : i = m
      · subst ei
        rw [if_pos rfl, if_pos rfl, if_pos rfl]
        exact ⟨h1, he, hv⟩
      · rw [if_neg ei, if_neg ei, if_neg ei]
        exact p6 i (by omega)
    · rw [e7, gB_pI, gB_pc _ _ _ _ _ _ (by decide), gB_pc _ _ _ _ _ _ (by decide), gB_pA]; exact r6 x
    · rw [e7]; exact r4
    · dsimp only
      rw [if_neg (by omega), if_neg (by omega), if_neg (by omega)]; exact ⟨rfl, rfl, rfl⟩
    · dsimp only
      rw [if_pos (by omega)]
    · dsimp only
      rw [fb_sm_succ, if_pos rfl, if_pos rfl, if_pos rfl, hff m 0]
      congr 1
      refine fb_sm_cong (fun i hi => ?_)
      rw [if_neg (by omega), if_neg (by omega), if_neg (by omega)]
