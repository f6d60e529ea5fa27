/-! TEXTS: WRITE -/
def byY (y : Int64) (x : Nat) : Nat := (y >>> ((nI (8 * x)).toInt64 &&& 63)).toBitVec.toNat % 256
theorem b_mod (z : Int64) : (z &&& 255).toInt32 = nI (z.toBitVec.toNat % 256) := by
  apply Int32.toBitVec_inj.mp
  apply BitVec.eq_of_toNat_eq
  have h1 : (z &&& 255).toInt32.toBitVec = (z.toBitVec &&& 255#64).signExtend 32 := rfl
  rw [h1, BitVec.signExtend_eq_setWidth_of_le _ (by decide), BitVec.toNat_setWidth, BitVec.toNat_and]
  have h2 : (nI (z.toBitVec.toNat % 256)).toBitVec = BitVec.ofNat 32 (z.toBitVec.toNat % 256) := rfl
  rw [h2, BitVec.toNat_ofNat, BitVec.toNat_ofNat, show 255 % 2 ^ 64 = 2 ^ 8 - 1 by decide, Nat.and_two_pow_sub_one_eq_mod]
theorem b_i8 (z : Int64) : z.toInt32.toInt8.toInt32.toInt8.toInt32 = (nI (z.toBitVec.toNat % 256)).toInt8.toInt32 := by
  have e : z.toInt32.toInt8 = (nI (z.toBitVec.toNat % 256)).toInt8 := by
    apply Int8.toBitVec_inj.mp
    apply BitVec.eq_of_toNat_eq
    have h1 : z.toInt32.toInt8.toBitVec = (z.toBitVec.signExtend 32).signExtend 8 := rfl
    have h2 : (nI (z.toBitVec.toNat % 256)).toInt8.toBitVec = (BitVec.ofNat 32 (z.toBitVec.toNat % 256)).signExtend 8 := rfl
    rw [h1, h2, BitVec.signExtend_eq_setWidth_of_le _ (by decide), BitVec.signExtend_eq_setWidth_of_le _ (by decide), BitVec.signExtend_eq_setWidth_of_le _ (by decide), BitVec.toNat_setWidth, BitVec.toNat_setWidth, BitVec.toNat_setWidth, BitVec.toNat_ofNat]
    omega
  rw [← e]
  simp
theorem mul8 (x : Nat) : (8 : Int32) * nI x = nI (8 * x) := pk_mul 8 x
theorem C_app (F : Nat) {t : Nat} (ht : t < 2) (y : Int64) : ∀ m j len S, gI S 8 t 1 = nI len → len + j ≤ 240 → j < m → ∃ S', fX9_append_L20 F t y m (nI j - 1) S = some (nI (len + j), S') ∧ gI S' 8 t 1 = nI (len + j) ∧ (∀ i, i < len → gA S' 46 t i = gA S 46 t i) ∧ (∀ i, i < j → gA S' 46 t (len + i) = (nI (byY y (j - 1 - i))).toInt8.toInt32) ∧ Ch (10 + t) S S' ∧ (∀ c n i, c ≠ 46 → gA S' c n i = gA S c n i) ∧ gC S' = gC S := by
  intro m
  induction m with
  | zero => intro j len S _ _ h; omega
  | succ m ih =>
    intro j len S hl hj hm
    simp only [fX9_append_L20, fX9_append_b20]
    cases j with
    | zero =>
      rw [if_pos (show nI 0 - 1 < 0 by decide)]
      exact ⟨S, by rw [hl]; rfl, hl, fun _ _ => rfl, fun i hi => by omega, Ch.rf _ _, fun _ _ _ _ => rfl, rfl⟩
    | succ j =>
      have e1 : nI (j + 1) - 1 = nI j := nI_subn (a := j + 1) (b := 1) (by omega)
      have em : nI j + -1 = nI j - 1 := by rw [Int32.sub_eq_add_neg]
      rw [e1, if_neg (nI_pos (by omega)), hl, ix_nI (show len < 240 by omega) (by decide), gd_t, cl (by omega), bnd_e, mul8, b_i8]
      have hl2 : gI (pA S 46 t len (nI (byY y j)).toInt8.toInt32) 8 t 1 = nI len := by rw [gI_pA]; exact hl
      have e3 : pI (pA S 46 t len (nI (byY y j)).toInt8.toInt32) 8 t 1 (gI (pA S 46 t len (nI (byY y j)).toInt8.toInt32) 8 t 1 + 1) = pI (pA S 46 t len (nI (byY y j)).toInt8.toInt32) 8 t 1 (nI (len + 1)) := by rw [hl2, nI_a1]
      obtain ⟨S', r1, r2, r3, r4, r5, r6, r7⟩ := ih j (len + 1) (pI (pA S 46 t len (nI (byY y j)).toInt8.toInt32) 8 t 1 (nI (len + 1))) (gI_ps _ _ _ _ _) (by omega) (by omega)
      have ch1 : Ch (10 + t) S (pI (pA S 46 t len (nI (byY y j)).toInt8.toInt32) 8 t 1 (nI (len + 1))) := Ch.pI (k := 10 + t) (Ch.pA (k := 10 + t) (Ch.rf (10 + t) S) (c := 46) (n := t) (j := len) _ (Or.inl rfl)) (c := 8) (n := t) (j := 1) _ (Or.inl rfl)
      refine ⟨S', ?_, by rw [r2]; congr 1; omega, fun i hi => ?_, fun i hi => ?_, ch1.trans r5, fun c n i hc => ?_, r7.trans rfl⟩
      · rw [bnd_e]
        show fX9_append_L20 F t y m (nI j + -1) _ = _
        rw [em]
        refine Eq.trans (congrArg _ e3) (r1.trans ?_)
        rw [show len + 1 + j = len + (j + 1) by omega]
      · rw [r3 i (by omega), gA_pI, gA_pi _ _ _ _ _ _ (show i ≠ len by omega)]
      · by_cases ei : i = 0
        · subst ei
          rw [show len + 0 = len from rfl, r3 len (by omega), gA_pI, gA_ps]; rfl
        · have := r4 (i - 1) (by omega)
          rw [show len + 1 + (i - 1) = len + i by omega, show j - 1 - (i - 1) = j + 1 - 1 - i by omega] at this
          exact this
      · rw [r6 c n i hc, gA_pI, gA_pc _ _ _ _ _ _ hc]
theorem own53 (t : Nat) : ownA 53 0 t = 10 + t := rfl
theorem own54 {t i : Nat} (hi : i < 240) : ownA 54 0 (240 * t + i) = 10 + t := by
  have : (240 * t + i) / 240 = t := by omega
  simp [ownA, this]
theorem M_app (F : Nat) {t : Nat} (ht : t < 2) (y : Int64) (k : St → Option (Int32 × St)) : ∀ m j len S, gA S 53 0 t = nI len → len + j ≤ 240 → j < m → ∃ S', fX12_write_L43 F (nI t) y k m (nI j - 1) S = k S' ∧ gA S' 53 0 t = nI (len + j) ∧ (∀ i, i < len → gA S' 54 0 (240 * t + i) = gA S 54 0 (240 * t + i)) ∧ (∀ i, i < j → gA S' 54 0 (240 * t + (len + i)) = nI (byY y (j - 1 - i))) ∧ Ch (10 + t) S S' ∧ (∀ n i, gA S' 46 n i = gA S 46 n i) ∧ gI S' = gI S ∧ gC S' = gC S := by
  intro m
  induction m with
  | zero => intro j len S _ _ h; omega
  | succ m ih =>
    intro j len S hl hj hm
    simp only [fX12_write_L43, fX12_write_b43]
    cases j with
    | zero =>
      rw [if_pos (show nI 0 - 1 < 0 by decide)]
      exact ⟨S, rfl, hl, fun _ _ => rfl, fun i hi => by omega, Ch.rf _ _, fun _ _ => rfl, rfl, rfl⟩
    | succ j =>
      have e1 : nI (j + 1) - 1 = nI j := nI_subn (a := j + 1) (b := 1) (by omega)
      have em : nI j + -1 = nI j - 1 := by rw [Int32.sub_eq_add_neg]
      have e2 : (240 : Int32) * nI t + nI len = nI (240 * t + len) := by rw [show (240 : Int32) * nI t = nI (240 * t) from pk_mul 240 t, nI_add]
      rw [e1, if_neg (nI_pos (by omega)), ix_nI (show t < 2 by omega) (by decide), gd_t, cl (show t < 2147483648 by omega), hl, e2, ix_nI (show 240 * t + len < 480 by omega) (by decide), gd_t, cl (show 240 * t + len < 2147483648 by omega), bnd_e, gd_t, gd_t, bnd_e, mul8, b_mod]
      have hl2 : gA (pA S 54 0 (240 * t + len) (nI (byY y j))) 53 0 t = nI len := by rw [gA_pc _ _ _ _ _ _ (show 53 ≠ 54 by decide)]; exact hl
      have e3 : pA (pA S 54 0 (240 * t + len) (nI (byY y j))) 53 0 t (gA (pA S 54 0 (240 * t + len) (nI (byY y j))) 53 0 t + 1) = pA (pA S 54 0 (240 * t + len) (nI (byY y j))) 53 0 t (nI (len + 1)) := by rw [hl2, nI_a1]
      obtain ⟨S', r1, r2, r3, r4, r5, r6, r7, r8⟩ := ih j (len + 1) (pA (pA S 54 0 (240 * t + len) (nI (byY y j))) 53 0 t (nI (len + 1))) (gA_ps _ _ _ _ _) (by omega) (by omega)
      have ch1 : Ch (10 + t) S (pA (pA S 54 0 (240 * t + len) (nI (byY y j))) 53 0 t (nI (len + 1))) := ((Ch.rf _ S).pA _ (Or.inl (own54 (by omega)))).pA _ (Or.inl (own53 t))
      refine ⟨S', ?_, by rw [r2]; congr 1; omega, fun i hi => ?_, fun i hi => ?_, ch1.trans r5, fun n i => ?_, r7.trans rfl, r8.trans rfl⟩
      · show fX12_write_L43 F (nI t) y k m (nI j + -1) _ = _
        rw [em]
        exact Eq.trans (congrArg _ e3) r1
      · rw [r3 i (by omega), gA_pc _ _ _ _ _ _ (show 54 ≠ 53 by decide), gA_pi _ _ _ _ _ _ (show 240 * t + i ≠ 240 * t + len by omega)]
      · by_cases ei : i = 0
        · subst ei
          rw [show len + 0 = len from rfl, r3 len (by omega), gA_pc _ _ _ _ _ _ (show 54 ≠ 53 by decide), gA_ps]; rfl
        · have := r4 (i - 1) (by omega)
          rw [show len + 1 + (i - 1) = len + i by omega, show j - 1 - (i - 1) = j + 1 - 1 - i by omega] at this
          exact this
      · rw [r6 n i, gA_pc _ _ _ _ _ _ (show 46 ≠ 53 by decide), gA_pc _ _ _ _ _ _ (show 46 ≠ 54 by decide)]
theorem Q_write {S : St} {t n : Nat} {B : Nat → Nat} (ht : t < 2) (h : IvX S t n B) (F : Nat) (hF : 1000 ≤ F) (p2 : Int32) (y : Int64) :
    ∃ (r : Int32) (S1 S2 : St) (n2 : Nat) (B2 : Nat → Nat), fX11_write F S (nI t) p2 y = some (r, S1) ∧ fX12_write F S1 (nI t) p2 y = some (r, S2) ∧ IvX S2 t n2 B2 ∧ Ch (10 + t) S S2 ∧ gC S1 = gC S ∧ gC S2 = gC S := by
  have hne : ¬ (1 : Int32) = 0 := by decide
  rcases a_tongue (nI t) with ⟨c1, m1⟩ | ⟨t', e', u1, c1, m1⟩
  · exact ⟨-1, S, S, n, B, by simp only [fX11_write, c1, cal_s]; rfl, by simp only [fX12_write, m1, cal_s]; rfl, h, Ch.rf _ _, rfl, rfl⟩
  have et : t' = t := ((nI_eq (show t < 2147483648 by omega) (show t' < 2147483648 by omega)).mp e').symm
  subst et
  rcases ar_n p2 1 8 (by decide) 1 8 1 8 (by decide) (by decide) (by decide) (by decide) with ⟨c2, m2⟩ | ⟨j, rfl, l2, u2, c2, m2⟩
  · exact ⟨-1, S, S, n, B, by simp only [fX11_write, c1, c2, cal_s, if_neg hne]; rfl, by simp only [fX12_write, m1, m2, cal_s, if_neg hne]; rfl, h, Ch.rf _ _, rfl, rfl⟩
  obtain ⟨h0, h1, h2, h3⟩ := id h
  by_cases e : n + j ≤ 240
  · have e4 : nI (n + j) ≤ (240 : Int32) := c_le (b := 240) e (by decide)
    obtain ⟨S1, r1, r2, r3, r4, r5, r6, r7⟩ := C_app F ht y F j n S h1 e (by omega)
    obtain ⟨S2, q1, q2, q3, q4, q5, q6, q7, q8⟩ := M_app F ht y (fun S_6 => gd (ix (nI t') 2) <| some (gA S_6 53 0 (nI t').toNatClampNeg, S_6)) F j n S1 (by rw [r6 53 0 t' (by decide)]; exact h2) e (by omega)
    refine ⟨nI (n + j), S1, S2, n + j, fun i => if i < n then B i else byY y (j - 1 - (i - n)), ?_, ?_, ⟨e, by rw [q7]; exact r2, q2, fun i hi => ?_⟩, r5.trans q5, r7, q8.trans r7⟩
    · simp only [fX11_write, c1, c2, cal_s, if_neg hne, tongue_of S u1, gd_p u1, fX9_append, h1, nI_add, if_pos e4, bnd_e]
      rw [r1]; rfl
    · have h2' : gA S1 53 0 t' = nI n := by rw [r6 53 0 t' (by decide)]; exact h2
      simp only [fX12_write, m1, m2, cal_s, if_neg hne, ix_nI (show t' < 2 by omega) (by decide), gd_t, cl (show t' < 2147483648 by omega), h2', nI_add, if_pos e4, bnd_e]
      simp only [ix_nI (show t' < 2 by omega) (by decide), gd_t, cl (show t' < 2147483648 by omega)] at q1
      rw [q1, q2]
    · by_cases ei : i < n
      · simp only [if_pos ei]
        obtain ⟨x1, x2, x3⟩ := h3 i ei
        exact ⟨by rw [q6, r3 i ei]; exact x1, by rw [q3 i ei, r6 54 0 _ (by decide)]; exact x2, x3⟩
      · simp only [if_neg ei]
        have a1 := r4 (i - n) (by omega)
        have a2 := q4 (i - n) (by omega)
        rw [show n + (i - n) = i by omega] at a1 a2
        exact ⟨by rw [q6]; exact a1, a2, Nat.mod_lt _ (by decide)⟩
  · have e4 : ¬ nI (n + j) ≤ (240 : Int32) := c_nle (b := 240) (by omega) (by omega)
    refine ⟨-3, S, S, n, B, ?_, ?_, h, Ch.rf _ _, rfl, rfl⟩
    · simp only [fX11_write, c1, c2, cal_s, if_neg hne, tongue_of S u1, gd_p u1, fX9_append, h1, nI_add, if_neg e4]
    · simp only [fX12_write, m1, m2, cal_s, if_neg hne, ix_nI (show t' < 2 by omega) (by decide), gd_t, cl (show t' < 2147483648 by omega), h2, nI_add, if_neg e4]
