theorem M_ra {t n N : Nat} {B : Nat → Nat} (ht : t < 2) (F : Nat) (hF : 1000 ≤ F) (hN : okU (byT n B) n N) (he : n ≤ stp (byT n B) N ∨ (stp (byT n B) N < n ∧ itm (byT n B) (stp (byT n B) N) = none)) : ∀ m k S, k ≤ N → N < k + m → IvX S t n B → gI S 11 0 28 = nI (stp (byT n B) k) → gA S 55 0 2 = nI k → (∀ i, i < k → ∀ j, j < 6 → gA S 56 0 (480 + 6 * i + j) = nI (tabE (byT n B) j i)) → ∃ S', fX12_readAll_L12 F (nI t) m S = some (endC n (stp (byT n B) N), S') ∧ OffN S S' ∧ (n ≤ stp (byT n B) N → gA S' 55 0 2 = nI N ∧ ∀ i, i < N → ∀ j, j < 6 → gA S' 56 0 (480 + 6 * i + j) = nI (tabE (byT n B) j i)) := by
  have hNs := ok_st hN
  have hne : ¬ (1 : Int32) = 0 := by decide
  intro m
  induction m with
  | zero => intro k S a b; omega
  | succ m ih =>
    intro k S a b h hat h5 h6
    have h240 := h.1
    have hk := ok_st (n := n) (B := B) (k := k) (fun i hi => hN i (by omega))
    have z2 : (2 : Int32).toNatClampNeg = 2 := by decide
    have i23 : ix 2 3 = true := by decide
    simp only [fX12_readAll_L12, fX12_readAll_b12]
    rw [ix_nI (show t < 2 by omega) (by decide), gd_t, cl (show t < 2147483648 by omega), h.2.2.1, hat]
    by_cases e : k = N
    · subst e
      unfold endC
      rcases he with he | ⟨he1, he2⟩
      · rw [if_pos (c_le he (by omega)), if_pos he]
        exact ⟨S, rfl, OffN.rf _, fun _ => ⟨h5, h6⟩⟩
      · rw [if_neg (c_nle he1 (by omega)), if_neg (by omega), bnd_e]
        obtain ⟨S1, o, r⟩ := M_item h ht F hF he1 hat
        rcases r with ⟨-, rr⟩ | ⟨r, rn, -⟩
        · refine ⟨S1, ?_, OffN.of o, fun q => by omega⟩
          rw [rr, cal_s, if_pos rfl]
        · rw [he2] at rn; exact absurd rn (by simp)
    · obtain ⟨c1, c2⟩ := hN k (by omega)
      rw [if_neg (c_nle c1 (by omega)), bnd_e]
      obtain ⟨S1, o, r⟩ := M_item h ht F hF c1 hat
      rcases r with ⟨rn, -⟩ | ⟨r, rn, rr, ra, rT⟩
      · exact absurd rn c2
      · have h51 : gA S1 55 0 2 = nI k := (o.2.1 55 0 2 (by decide)).trans h5
        have ex : (480 : Int32) + (6 : Int32) * nI k = nI (480 + 6 * k) := by
          rw [show (6 : Int32) * nI k = nI (6 * k) from pk_mul 6 k]; exact nI_add 480 (6 * k)
        have h1 := h.offM o ht
        have hbl : byT n B (stp (byT n B) k) < 256 := by
          have e1 : byT n B (stp (byT n B) k) = B (stp (byT n B) k) := if_pos c1
          rw [e1]; exact (h.2.2.2 _ c1).2.2
        have hmb : mb (byT n B (stp (byT n B) k)) = nI (byT n B (stp (byT n B) k)) := by rw [mb, if_pos hbl]
        obtain ⟨S2, q1, q2, q3, q4, q5, q6⟩ := M_cp F (nI t) (a := 480 + 6 * k) (by omega) (by omega) r.2 (fun S_9 => gd (ix 2 3) <| gd (ix 2 3) <| bnd (pA S_9 55 0 (2 : Int32).toNatClampNeg ((gA S_9 55 0 (2 : Int32).toNatClampNeg) + 1)) fun S_10 => fX12_readAll_L12 F (nI t) m S_10) F 0 (pA S1 56 0 (480 + 6 * k) (nI (byT n B (stp (byT n B) k)))) (by omega) (by omega) (fun i hi => by rw [gA_pc _ _ _ _ _ _ (show 73 ≠ 56 by decide)]; exact rT i hi) (fun i hi => by omega)
        have h52 : gA S2 55 0 2 = nI k := by rw [q6, gA_pc _ _ _ _ _ _ (show 55 ≠ 56 by decide)]; exact h51
        have oA : OffN S S2 := ((OffN.of o).p6 (show 480 ≤ 480 + 6 * k by omega) _).tr q2
        have oB : OffN S (pA S2 55 0 2 (nI (k + 1))) := oA.p5 _
        obtain ⟨S', r1, r2, r3⟩ := ih (k + 1) (pA S2 55 0 2 (nI (k + 1))) (by omega) (by omega) (h.offN oB ht) (by rw [gI_pA, q3, gI_pA, (stp_s rn).1]; exact ra) (gA_ps _ _ _ _ _) (fun i hi j hj => by
          rw [gA_pc _ _ _ _ _ _ (show 56 ≠ 55 by decide)]
          by_cases ei : i = k
          · subst ei
            by_cases ej : j = 0
            · subst ej; rw [q5 _ (by omega), show 480 + 6 * i + 0 = 480 + 6 * i from rfl, gA_ps]; rfl
            · have := q4 (j - 1) (by omega)
              rw [show 480 + 6 * i + 1 + (j - 1) = 480 + 6 * i + j by omega] at this
              rw [this]
              unfold tabE
              rw [if_neg ej, (stp_s rn).2]
          · rw [q5 _ (by omega), gA_pi _ _ _ _ _ _ (show 480 + 6 * i + j ≠ 480 + 6 * k by omega), o.2.1 56 0 _ (by decide)]
            exact h6 i (by omega) j hj)
        refine ⟨S', ?_, oB.tr r2, r3⟩
        rw [rr, cal_s, if_neg hne, i23, gd_t, z2, h51, ex, bnd_e, byte_s h1 ht (by omega), cal_s, hmb, ix_nI (show 480 + 6 * k < 720 by omega) (by decide), gd_t, cl (show 480 + 6 * k < 2147483648 by omega), bnd_e]
        refine Eq.trans (Eq.trans (by simp only [i23, z2]; rfl) q1) ?_
        simp only [i23, gd_t, z2, bnd_e, h52, nI_a1]
        exact r1
theorem M_readAll {S : St} {t n N : Nat} {B : Nat → Nat} (ht : t < 2) (F : Nat) (hF : 1000 ≤ F) (hN : okU (byT n B) n N) (he : n ≤ stp (byT n B) N ∨ (stp (byT n B) N < n ∧ itm (byT n B) (stp (byT n B) N) = none)) (h : IvX S t n B) : ∃ S', fX12_readAll F S (nI t) = some (endC n (stp (byT n B) N), S') ∧ OffN S S' ∧ (n ≤ stp (byT n B) N → gA S' 55 0 2 = nI N ∧ ∀ i, i < N → ∀ j, j < 6 → gA S' 56 0 (480 + 6 * i + j) = nI (tabE (byT n B) j i)) := by
  have hs := ok_st hN
  have h240 := h.1
  have o1 : OffN S (pI (pA S 55 0 2 (nI 0)) 11 0 28 (nI 0)) := ((OffN.rf S).p5 _).tr ⟨fun c n j q => by rw [gI_pI, if_neg q], fun _ _ _ _ _ _ => rfl, rfl⟩
  obtain ⟨S', r1, r2, r3⟩ := M_ra ht F hF hN he F 0 (pI (pA S 55 0 2 (nI 0)) 11 0 28 (nI 0)) (by omega) (by omega) (h.offN o1 ht) (gI_ps _ _ _ _ _) (by rw [gA_pI, gA_ps]) (fun i hi => by omega)
  exact ⟨S', r1, o1.tr r2, r3⟩
theorem M_copy (F : Nat) {t : Nat} (ht : t < 2) (k : St → Option (Int32 × St)) : ∀ m j S, j ≤ 240 → 240 < j + m → (∀ i, i < j → gA S 56 0 (240 * t + i) = gA S 56 0 (480 + i)) → ∃ S', fX12_force_L36 F (nI t) k m (nI j) S = k S' ∧ gI S' = gI S ∧ gC S' = gC S ∧ (∀ i, i < 240 → gA S' 56 0 (240 * t + i) = gA S 56 0 (480 + i)) ∧ ∀ c nn i, ¬ (c = 56 ∧ nn = 0 ∧ 240 * t ≤ i ∧ i < 240 * t + 240) → gA S' c nn i = gA S c nn i := by
  intro m
  induction m with
  | zero => intro j S q1 q2; omega
  | succ m ih =>
    intro j S q1 q2 h
    simp only [fX12_force_L36, fX12_force_b36]
    by_cases e : j = 240
    · subst e
      rw [if_pos (show (240 : Int32) ≤ nI 240 by decide)]
      exact ⟨S, rfl, rfl, rfl, h, fun _ _ _ _ => rfl⟩
    · have e5 : ¬ (240 : Int32) ≤ nI j := c_nle (a := 240) (by omega) (by omega)
      have e1 : (480 : Int32) + nI j = nI (480 + j) := nI_add 480 j
      have e2 : (240 : Int32) * nI t + nI j = nI (240 * t + j) := by rw [show (240 : Int32) * nI t = nI (240 * t) from pk_mul 240 t, nI_add]
      rw [if_neg e5, e1, e2, ix_nI (show 480 + j < 720 by omega) (by decide), gd_t, ix_nI (show 240 * t + j < 720 by omega) (by decide), gd_t, cl (show 240 * t + j < 2147483648 by omega), cl (show 480 + j < 2147483648 by omega), bnd_e, nI_a1]
      obtain ⟨S', r1, r2, r3, r4, r5⟩ := ih (j + 1) (pA S 56 0 (240 * t + j) (gA S 56 0 (480 + j))) (by omega) (by omega) (fun i hi => by
        rw [gA_pi _ _ _ _ _ _ (show 480 + i ≠ 240 * t + j by omega)]
        by_cases ei : i = j
        · subst ei; rw [gA_ps]
        · rw [gA_pi _ _ _ _ _ _ (show 240 * t + i ≠ 240 * t + j by omega)]; exact h i (by omega))
      exact ⟨S', r1, r2, r3, fun i hi => by rw [r4 i hi, gA_pi _ _ _ _ _ _ (show 480 + i ≠ 240 * t + j by omega)], fun c nn i hc => by rw [r5 c nn i hc, gA_pA, if_neg (fun z => hc ⟨z.1, z.2.1, by omega, by omega⟩)]⟩
theorem ChR.ch {S S' : St} {t : Nat} (h : ChR (68 + t) S S') : Ch 99 S S' := by
  refine ⟨fun c n j a b => h.1 c n j (fun e => ?_), fun c n j a _ => h.2.1 c n j (fun e => ?_)⟩
  · obtain ⟨rfl, rfl⟩ := e
    exact a (by simp [ownI]; omega)
  · subst e; exact a rfl
theorem ChE.ch {S S' : St} {t : Nat} (ht : t < 2) (h : ChE t S S') : Ch (12 + t) S S' := by
  refine ⟨fun c n j a b => h.1 c n j (fun e => ?_) (fun e => ?_), fun c n j a b => h.2.1 c n j (fun e => ?_)⟩
  · obtain ⟨rfl, q1, q2⟩ := e
    have := own_it (t := t) (i := n - 34 * t) (k := j) ht (by omega)
    rw [show 34 * t + (n - 34 * t) = n by omega] at this
    exact a this
  · obtain ⟨rfl, rfl, rfl⟩ := e; exact a rfl
  · subst e; exact b rfl
theorem Q_fault {S : St} {n : Nat → Nat} {B : Nat → Nat → Nat} (hX : ∀ t, t < 2 → IvX S t (n t) (B t)) (F : Nat) (hF : 1000 ≤ F) (p1 : Int32) : ∃ (r : Int32) (S1 S2 : St), fX11_fault F S p1 = some (r, S1) ∧ fX12_fault F S1 p1 = some (r, S2) ∧ Ch 99 S S2 ∧ gC S1 = gC S ∧ gC S2 = gC S := by
  have hne : ¬ (1 : Int32) = 0 := by decide
  rcases a_tongue p1 with ⟨c1, m1⟩ | ⟨t, rfl, u1, c1, m1⟩
  · exact ⟨-1, S, S, by simp only [fX11_fault, c1, cal_s]; rfl, by simp only [fX12_fault, m1, cal_s]; rfl, Ch.rf _ _, rfl, rfl⟩
  have h := hX t u1
  obtain ⟨N, hN, he⟩ := okU_ex (n := n t) (B := B t) (n t + 1) 0 (fun i hi => by omega) (by omega)
  obtain ⟨S1, o1, r1⟩ := C_fault u1 F hF hN he h
  obtain ⟨S2, r2, o2, -⟩ := M_readAll u1 F hF hN he (h.chR o1)
  exact ⟨endC (n t) (stp (byT (n t) (B t)) N), S1, S2, by simp only [fX11_fault, c1, cal_s, if_neg hne, tongue_of S u1, gd_p u1, r1], by simp only [fX12_fault, m1, cal_s, if_neg hne, r2], o1.ch.trans o2.ch, o1.2.2, o2.2.2.trans o1.2.2⟩
theorem Q_force {S : St} {n ni : Nat → Nat} {B : Nat → Nat → Nat} {E : Nat → Nat → Nat → Nat} (hX : ∀ t, t < 2 → IvX S t (n t) (B t)) (hI : ∀ t, t < 2 → IvI S t (ni t) (E t)) (F : Nat) (hF : 1000 ≤ F) (p1 : Int32) : ∃ (r : Int32) (S1 S2 : St) (ni2 : Nat → Nat) (E2 : Nat → Nat → Nat → Nat) (k : Nat), fX11_force F S p1 = some (r, S1) ∧ fX12_force F S1 p1 = some (r, S2) ∧ (∀ t, t < 2 → IvI S2 t (ni2 t) (E2 t)) ∧ (k = 12 ∨ k = 13) ∧ Ch k S S2 ∧ gC S1 = gC S ∧ gC S2 = gC S := by
  have hne : ¬ (1 : Int32) = 0 := by decide
  rcases a_tongue p1 with ⟨c1, m1⟩ | ⟨t, rfl, u1, c1, m1⟩
  · exact ⟨-1, S, S, ni, E, 12, by simp only [fX11_force, c1, cal_s]; rfl, by simp only [fX12_force, m1, cal_s]; rfl, hI, Or.inl rfl, Ch.rf _ _, rfl, rfl⟩
  have h := hX t u1
  have h240 := h.1
  obtain ⟨N, hN, he⟩ := okU_ex (n := n t) (B := B t) (n t + 1) 0 (fun i hi => by omega) (by omega)
  have hs := ok_st hN
  rcases C_enact u1 F hF hN he h with ⟨e, S1, S0, oa, ob, r1, r2, r3⟩ | ⟨e, S1, o1, r1⟩
  · have h1 : IvX S1 t (n t) (B t) := (h.chR oa).ch (ob.ch u1) (by omega) u1
    obtain ⟨S2, q1, q2, q3⟩ := M_readAll u1 F hF hN he h1
    obtain ⟨q3, q4⟩ := q3 e
    obtain ⟨S3, w1, w2, w3, w4, w5⟩ := M_copy F u1 (fun S_5 => gd (ix (nI t) 3) <| some (gA S_5 55 0 (nI t).toNatClampNeg, S_5)) F 0 (pA S2 55 0 t (nI N)) (by omega) (by omega) (fun i hi => by omega)
    have h55 : gA S3 55 0 t = nI N := by rw [w5 55 0 t (fun z => absurd z.1 (by decide)), gA_ps]
    have chA : Ch (12 + t) S S1 := (Ch.up oa.ch).trans (ob.ch u1)
    have chB : Ch (12 + t) S1 (pA S2 55 0 t (nI N)) := Ch.pA (k := 12 + t) (Ch.up q2.ch) (c := 55) (n := 0) (j := t) _ (Or.inl (own_mm u1))
    have chC : Ch (12 + t) (pA S2 55 0 t (nI N)) S3 := ⟨fun c nn j a b => by rw [w2], fun c nn j a b => w5 c nn j (fun z => a (by
      obtain ⟨rfl, rfl, x1, x2⟩ := z
      have := own_mi (t := t) (i := j - 240 * t) u1 (by omega)
      rw [show 240 * t + (j - 240 * t) = j by omega] at this
      exact this))⟩
    have gi3 : ∀ c nn j, ¬ (c = 11 ∧ nn = 0 ∧ j = 28) → gI S3 c nn j = gI S1 c nn j := fun c nn j hc => by rw [w2, gI_pA]; exact q2.1 c nn j hc
    refine ⟨nI N, S1, S3, fun t' => if t' = t then N else ni t', fun t' => if t' = t then tabE (byT (n t) (B t)) else E t', 12 + t, ?_, ?_, fun t' ht' => ?_, by omega, (chA.trans chB).trans chC, ob.2.2.trans oa.2.2, by rw [w3, gC_pA]; exact q2.2.2.trans (ob.2.2.trans oa.2.2)⟩
    · simp only [fX11_force, c1, cal_s, if_neg hne, tongue_of S u1, gd_p u1, r1]
    · have i23 : ix 2 3 = true := by decide
      have z2 : (2 : Int32).toNatClampNeg = 2 := by decide
      have e4 : endC (n t) (stp (byT (n t) (B t)) N) = -4 := if_pos e
      simp only [fX12_force, m1, cal_s, if_neg hne, q1, e4, if_true, i23, gd_t, ix_nI (show t < 3 by omega) (by decide), cl (show t < 2147483648 by omega), z2, q3, bnd_e]
      simp only [ix_nI (show t < 3 by omega) (by decide), gd_t, cl (show t < 2147483648 by omega)] at w1
      refine Eq.trans w1 ?_
      rw [h55]
    · by_cases et : t' = t
      · subst et
        simp only [if_true]
        refine ⟨by omega, by rw [gi3 9 t' 6 (fun z => absurd z.1 (by decide))]; exact r2, h55, fun i hi => ?_⟩
        obtain ⟨g0, g1, g2, g3, g4, g5⟩ := r3 i hi
        obtain ⟨x1, x2⟩ := hN i hi
        have m6 : ∀ j, j < 6 → gA S3 56 0 (240 * t' + 6 * i + j) = nI (tabE (byT (n t') (B t')) j i) := fun j hj => by
          have := w4 (6 * i + j) (by omega)
          rw [show 240 * t' + (6 * i + j) = 240 * t' + 6 * i + j by omega, gA_pc _ _ _ _ _ _ (show 56 ≠ 55 by decide), show 480 + (6 * i + j) = 480 + 6 * i + j by omega] at this
          rw [this]; exact q4 i hi j hj
        refine ⟨by rw [gi3 3 _ 0 (fun z => absurd z.1 (by decide))]; exact g0, by rw [gi3 3 _ 1 (fun z => absurd z.1 (by decide))]; exact g1, by rw [gi3 3 _ 2 (fun z => absurd z.1 (by decide))]; exact g2, by rw [gi3 3 _ 3 (fun z => absurd z.1 (by decide))]; exact g3, by rw [gi3 3 _ 4 (fun z => absurd z.1 (by decide))]; exact g4, by rw [gi3 3 _ 5 (fun z => absurd z.1 (by decide))]; exact g5, m6 0 (by decide), m6 1 (by decide), m6 2 (by decide), m6 3 (by decide), m6 4 (by decide), m6 5 (by decide), ?_⟩
        cases hr : itm (byT (n t') (B t')) (stp (byT (n t') (B t')) i) with
        | none => exact absurd hr x2
        | some r =>
          have ip := (itm_post x1 hr).2.2
          have et2 := (stp_s hr).2
          show (byT (n t') (B t') (stp (byT (n t') (B t')) i) = 119 ∧ tbl (byT (n t') (B t')) i 0 < 8 ∧ tbl (byT (n t') (B t')) i 1 ≤ 200 ∧ tbl (byT (n t') (B t')) i 2 < 64) ∨ ((byT (n t') (B t') (stp (byT (n t') (B t')) i) = 108 ∨ byT (n t') (B t') (stp (byT (n t') (B t')) i) = 98) ∧ tbl (byT (n t') (B t')) i 0 < 8 ∧ tbl (byT (n t') (B t')) i 1 < 6 ∧ tbl (byT (n t') (B t')) i 2 ≤ tbl (byT (n t') (B t')) i 3 ∧ tbl (byT (n t') (B t')) i 3 ≤ 200 ∧ tbl (byT (n t') (B t')) i 4 < 256)
          rw [et2]; exact ip
      · simp only [if_neg et]
        exact (hI t' ht').ch ((chA.trans chB).trans chC) (by omega) ht'
  · obtain ⟨S2, q1, q2, -⟩ := M_readAll u1 F hF hN he (h.chR o1)
    have e4 : ¬ endC (n t) (stp (byT (n t) (B t)) N) = -4 := by
      rw [endC, if_neg (by omega)]; exact ne4 (by omega)
    refine ⟨-2, S1, S2, ni, E, 12, ?_, ?_, fun t' ht' => (hI t' ht').ch (o1.ch.trans q2.ch) (by omega) ht', Or.inl rfl, Ch.up (o1.ch.trans q2.ch), o1.2.2, q2.2.2.trans o1.2.2⟩
    · simp only [fX11_force, c1, cal_s, if_neg hne, tongue_of S u1, gd_p u1, r1]
    · simp only [fX12_force, m1, cal_s, if_neg hne, q1, if_neg e4]
