/-! THE MODEL'S ITEM -/
theorem i5 : ix 0 5 = true ∧ ix 1 5 = true ∧ ix 2 5 = true ∧ ix 3 5 = true ∧ ix 4 5 = true := by decide
theorem z5 : (0 : Int32).toNatClampNeg = 0 ∧ (1 : Int32).toNatClampNeg = 1 ∧ (2 : Int32).toNatClampNeg = 2 ∧ (3 : Int32).toNatClampNeg = 3 ∧ (4 : Int32).toNatClampNeg = 4 := by decide
theorem in0 (S : St) {w l : Nat} (h : w < 2147483648) (hl : l < 2147483648) : fX12_in S (nI w).toInt64 0 (nI l).toInt64 = some (if w ≤ l then 1 else 0) := by
  have e : fX12_in S (nI w).toInt64 0 (nI l).toInt64 = some (if 0 ≤ w ∧ w ≤ l then 1 else 0) := in_n S (a := w) (b := 0) (c := l) h (by decide) hl
  rw [e]
  by_cases q : w ≤ l
  · rw [if_pos q, if_pos (by omega)]
  · rw [if_neg q, if_neg (by omega)]
theorem M_item {S : St} {t n p : Nat} {B : Nat → Nat} (h : IvX S t n B) (ht : t < 2) (F : Nat) (hF : 1000 ≤ F) (hp : p < n) (hat : gI S 11 0 28 = nI p) : ∃ S', OffM S S' ∧ ((itm (byT n B) p = none ∧ fX12_item F S (nI t) = some (0, S')) ∨ ∃ r, itm (byT n B) p = some r ∧ fX12_item F S (nI t) = some (1, S') ∧ gI S' 11 0 28 = nI r.1 ∧ ∀ j, j < 5 → gA S' 73 0 j = nI (r.2 j)) := by
  have hne : ¬ (1 : Int32) = 0 := by decide
  have h240 := h.1
  have hb := byT_le h p
  have s1 := byte_s h ht (p := p) (by omega)
  have d1 := dq (mbF ⟨_, hb⟩).2.1
  have d2 := dq (mbF ⟨_, hb⟩).2.2.1
  have d3 := dq (mbF ⟨_, hb⟩).2.2.2.1
  simp only at d1 d2 d3
  unfold fX12_item itm
  rw [hat, s1, cal_s, bnd_e, nI_a1]
  have o1 : OffM S (pI S 11 0 28 (nI (p + 1))) := (OffM.rf S).pI _
  have h1 := h.offM o1 ht
  obtain ⟨i0, i1, i2, i3, i4⟩ := i5
  obtain ⟨z0, z1, z2, z3, z4⟩ := z5
  by_cases e1 : byT n B p = 119
  · rw [if_pos (d1.mpr e1), if_pos e1]
    obtain ⟨S1, o, r⟩ := M_nums (n := n) (B := B) ht F hF (c := 3) (by decide) F 0 (p + 1) (fun _ => 0) (pI S 11 0 28 (nI (p + 1))) (by decide) (by omega) h1 (by omega) (gI_ps _ _ _ _ _) (fun j hj => by omega)
    rw [show (3 : Nat) - 0 = 3 from rfl] at r
    have o3 : OffM S (pA (pA S1 73 0 3 0) 73 0 4 0) := ((o1.tr o).pA _ _ _).pA _ _ _
    have j86 : ∀ b : Int32, (b = 0 ∨ b = 1) → fX12_item_j86 F S1 b = some (b, pA (pA S1 73 0 3 0) 73 0 4 0) := by
      intro b hb2
      have hbb : isB b = true := by rcases hb2 with rfl | rfl <;> decide
      simp only [fX12_item_j86, i3, i4, gd_t, z3, z4, bnd_e, hbb]
    have j85 : fX12_item_j85 F S1 = some (0, pA (pA S1 73 0 3 0) 73 0 4 0) := j86 0 (Or.inl rfl)
    refine ⟨_, o3, ?_⟩
    rcases r with ⟨rn, rr⟩ | ⟨r, rn, rr, ra, rT⟩
    · have rr' : fX12_numbers F (pI S 11 0 28 (nI (p + 1))) (nI t) 3 = some (0, S1) := rr
      rw [rn, rr', cal_s, if_pos rfl]
      exact Or.inl ⟨rfl, j85⟩
    · have rr' : fX12_numbers F (pI S 11 0 28 (nI (p + 1))) (nI t) 3 = some (1, S1) := rr
      have pp := nums_post 3 0 (p + 1) _ r rn (by omega)
      have t0 := rT 0 (by decide)
      have t1 := rT 1 (by decide)
      have t2 := rT 2 (by decide)
      have l0 := pp.2.2.2.2 0 (by omega) (by omega)
      have l1 := pp.2.2.2.2 1 (by omega) (by omega)
      have l2 := pp.2.2.2.2 2 (by omega) (by omega)
      have q0 : fX12_in S1 (nI (r.2 0)).toInt64 0 7 = some (if r.2 0 ≤ 7 then 1 else 0) := in0 S1 (l := 7) (by omega) (by decide)
      have q2 : fX12_in S1 (nI (r.2 2)).toInt64 0 63 = some (if r.2 2 ≤ 63 then 1 else 0) := in0 S1 (l := 63) (by omega) (by decide)
      rw [rn, rr', cal_s, if_neg hne, i0, gd_t, z0, t0, q0, cal_s, i1, gd_t, z1, t1, m_year S1 (by omega), i2, gd_t, z2, t2, q2]
      simp only [cal_s]
      by_cases c0 : r.2 0 ≤ 7
      · rw [if_pos c0, if_neg hne]
        by_cases c1 : r.2 1 ≤ 200
        · rw [if_pos c1, if_neg hne]
          by_cases c2 : r.2 2 ≤ 63
          · rw [if_pos c2, if_neg hne, if_pos (show r.2 0 < 8 ∧ r.2 1 ≤ 200 ∧ r.2 2 < 64 by omega)]
            refine Or.inr ⟨r, rfl, j86 1 (Or.inr rfl), by rw [gI_pA, gI_pA]; exact ra, fun j hj => ?_⟩
            by_cases e4 : j = 4
            · subst e4; rw [gA_ps, pp.2.2.1 4 (by omega)]; rfl
            · rw [gA_pi _ _ _ _ _ _ e4]
              by_cases e3 : j = 3
              · subst e3; rw [gA_ps, pp.2.2.1 3 (by omega)]; rfl
              · rw [gA_pi _ _ _ _ _ _ e3]; exact rT j (by omega)
          · rw [if_neg c2, if_pos rfl, if_neg (show ¬ (r.2 0 < 8 ∧ r.2 1 ≤ 200 ∧ r.2 2 < 64) by omega)]
            exact Or.inl ⟨rfl, j85⟩
        · rw [if_neg c1, if_pos rfl, if_neg (show ¬ (r.2 0 < 8 ∧ r.2 1 ≤ 200 ∧ r.2 2 < 64) by omega)]
          exact Or.inl ⟨rfl, j85⟩
      · rw [if_neg c0, if_pos rfl, if_neg (show ¬ (r.2 0 < 8 ∧ r.2 1 ≤ 200 ∧ r.2 2 < 64) by omega)]
        exact Or.inl ⟨rfl, j85⟩
  · rw [if_neg (fun z => e1 (d1.mp z)), if_neg e1]
    obtain ⟨S1, o, r⟩ := M_nums (n := n) (B := B) ht F hF (c := 5) (by decide) F 0 (p + 1) (fun _ => 0) (pI S 11 0 28 (nI (p + 1))) (by decide) (by omega) h1 (by omega) (gI_ps _ _ _ _ _) (fun j hj => by omega)
    rw [show (5 : Nat) - 0 = 5 from rfl] at r
    have five : ((match nums (byT n B) 5 5 0 (p + 1) (fun _ => 0) with
    | none => none
    | some r => if r.2 0 < 8 ∧ r.2 1 < 6 ∧ r.2 2 ≤ r.2 3 ∧ r.2 3 ≤ 200 ∧ r.2 4 < 256 then some r else none) = (none : Option (Nat × (Nat → Nat))) ∧ fX12_item_j117 F (pI S 11 0 28 (nI (p + 1))) (nI t) = some (0, S1)) ∨ ∃ r, (match nums (byT n B) 5 5 0 (p + 1) (fun _ => 0) with
    | none => none
    | some r => if r.2 0 < 8 ∧ r.2 1 < 6 ∧ r.2 2 ≤ r.2 3 ∧ r.2 3 ≤ 200 ∧ r.2 4 < 256 then some r else none) = some r ∧ fX12_item_j117 F (pI S 11 0 28 (nI (p + 1))) (nI t) = some (1, S1) ∧ gI S1 11 0 28 = nI r.1 ∧ ∀ j, j < 5 → gA S1 73 0 j = nI (r.2 j) := by
      unfold fX12_item_j117
      rcases r with ⟨rn, rr⟩ | ⟨r, rn, rr, ra, rT⟩
      · have rr' : fX12_numbers F (pI S 11 0 28 (nI (p + 1))) (nI t) 5 = some (0, S1) := rr
        rw [rn, rr', cal_s, if_pos rfl]
        exact Or.inl ⟨rfl, rfl⟩
      · have rr' : fX12_numbers F (pI S 11 0 28 (nI (p + 1))) (nI t) 5 = some (1, S1) := rr
        have pp := nums_post 5 0 (p + 1) _ r rn (by omega)
        have t0 := rT 0 (by decide)
        have t1 := rT 1 (by decide)
        have t2 := rT 2 (by decide)
        have t3 := rT 3 (by decide)
        have t4 := rT 4 (by decide)
        have l0 := pp.2.2.2.2 0 (by omega) (by omega)
        have l1 := pp.2.2.2.2 1 (by omega) (by omega)
        have l2 := pp.2.2.2.2 2 (by omega) (by omega)
        have l3 := pp.2.2.2.2 3 (by omega) (by omega)
        have l4 := pp.2.2.2.2 4 (by omega) (by omega)
        have q0 : fX12_in S1 (nI (r.2 0)).toInt64 0 7 = some (if r.2 0 ≤ 7 then 1 else 0) := in0 S1 (l := 7) (by omega) (by decide)
        have q1 : fX12_in S1 (nI (r.2 1)).toInt64 0 5 = some (if r.2 1 ≤ 5 then 1 else 0) := in0 S1 (l := 5) (by omega) (by decide)
        have q2 : fX12_in S1 (nI (r.2 2)).toInt64 0 (nI (r.2 3)).toInt64 = some (if r.2 2 ≤ r.2 3 then 1 else 0) := in0 S1 (by omega) (by omega)
        have q4 : fX12_in S1 (nI (r.2 4)).toInt64 0 255 = some (if r.2 4 ≤ 255 then 1 else 0) := in0 S1 (l := 255) (by omega) (by decide)
        rw [rn, rr', cal_s, if_neg hne]
        simp only [i0, i1, i2, i3, i4, gd_t, z0, z1, z2, z3, z4, t0, t1, t2, t3, t4, q0, q1, q2, q4, m_year S1 (show r.2 3 < 2147483648 by omega), cal_s]
        by_cases c0 : r.2 0 ≤ 7
        · rw [if_pos c0, if_neg hne]
          by_cases c1 : r.2 1 ≤ 5
          · rw [if_pos c1, if_neg hne]
            by_cases c2 : r.2 2 ≤ r.2 3
            · rw [if_pos c2, if_neg hne]
              by_cases c3 : r.2 3 ≤ 200
              · rw [if_pos c3, if_neg hne]
                by_cases c4 : r.2 4 ≤ 255
                · rw [if_pos c4, if_neg hne, if_pos (show r.2 0 < 8 ∧ r.2 1 < 6 ∧ r.2 2 ≤ r.2 3 ∧ r.2 3 ≤ 200 ∧ r.2 4 < 256 by omega)]
                  exact Or.inr ⟨r, rfl, rfl, ra, rT⟩
                · rw [if_neg c4, if_pos rfl, if_neg (show ¬ (r.2 0 < 8 ∧ r.2 1 < 6 ∧ r.2 2 ≤ r.2 3 ∧ r.2 3 ≤ 200 ∧ r.2 4 < 256) by omega)]; exact Or.inl ⟨rfl, rfl⟩
              · rw [if_neg c3, if_pos rfl, if_neg (show ¬ (r.2 0 < 8 ∧ r.2 1 < 6 ∧ r.2 2 ≤ r.2 3 ∧ r.2 3 ≤ 200 ∧ r.2 4 < 256) by omega)]; exact Or.inl ⟨rfl, rfl⟩
            · rw [if_neg c2, if_pos rfl, if_neg (show ¬ (r.2 0 < 8 ∧ r.2 1 < 6 ∧ r.2 2 ≤ r.2 3 ∧ r.2 3 ≤ 200 ∧ r.2 4 < 256) by omega)]; exact Or.inl ⟨rfl, rfl⟩
          · rw [if_neg c1, if_pos rfl, if_neg (show ¬ (r.2 0 < 8 ∧ r.2 1 < 6 ∧ r.2 2 ≤ r.2 3 ∧ r.2 3 ≤ 200 ∧ r.2 4 < 256) by omega)]; exact Or.inl ⟨rfl, rfl⟩
        · rw [if_neg c0, if_pos rfl, if_neg (show ¬ (r.2 0 < 8 ∧ r.2 1 < 6 ∧ r.2 2 ≤ r.2 3 ∧ r.2 3 ≤ 200 ∧ r.2 4 < 256) by omega)]; exact Or.inl ⟨rfl, rfl⟩
    by_cases e2 : byT n B p = 108
    · rw [if_pos (d2.mpr e2), if_pos (Or.inl e2)]
      exact ⟨S1, o1.tr o, five⟩
    · rw [if_neg (fun z => e2 (d2.mp z))]
      by_cases e3 : byT n B p = 98
      · rw [if_pos (d3.mpr e3), if_pos (Or.inr e3)]
        exact ⟨S1, o1.tr o, five⟩
      · rw [if_neg (fun z => e3 (d3.mp z)), if_neg (show ¬ (byT n B p = 108 ∨ byT n B p = 98) from fun z => z.elim e2 e3)]
        exact ⟨_, o1, Or.inl ⟨rfl, rfl⟩⟩
/-- what a good item is -/
theorem itm_post {n p : Nat} {B : Nat → Nat} {r : Nat × (Nat → Nat)} (hp : p < n) (h : itm (byT n B) p = some r) : p + 7 ≤ r.1 ∧ r.1 ≤ n ∧ ((byT n B p = 119 ∧ r.2 0 < 8 ∧ r.2 1 ≤ 200 ∧ r.2 2 < 64) ∨ ((byT n B p = 108 ∨ byT n B p = 98) ∧ r.2 0 < 8 ∧ r.2 1 < 6 ∧ r.2 2 ≤ r.2 3 ∧ r.2 3 ≤ 200 ∧ r.2 4 < 256)) := by
  unfold itm at h
  by_cases e1 : byT n B p = 119
  · rw [if_pos e1] at h
    cases hn : nums (byT n B) 3 3 0 (p + 1) (fun _ => 0) with
    | none => rw [hn] at h; exact absurd h (by simp)
    | some q =>
      rw [hn] at h
      have pp := nums_post 3 0 (p + 1) _ q hn (by omega)
      by_cases c : q.2 0 < 8 ∧ q.2 1 ≤ 200 ∧ q.2 2 < 64
      · simp only [if_pos c] at h
        have := Option.some.inj h
        subst this
        exact ⟨by omega, pp.2.1, Or.inl ⟨e1, c⟩⟩
      · simp only [if_neg c] at h
        exact absurd h (by simp)
  · rw [if_neg e1] at h
    by_cases e2 : byT n B p = 108 ∨ byT n B p = 98
    · rw [if_pos e2] at h
      cases hn : nums (byT n B) 5 5 0 (p + 1) (fun _ => 0) with
      | none => rw [hn] at h; exact absurd h (by simp)
      | some q =>
        rw [hn] at h
        have pp := nums_post 5 0 (p + 1) _ q hn (by omega)
        by_cases c : q.2 0 < 8 ∧ q.2 1 < 6 ∧ q.2 2 ≤ q.2 3 ∧ q.2 3 ≤ 200 ∧ q.2 4 < 256
        · simp only [if_pos c] at h
          have := Option.some.inj h
          subst this
          exact ⟨by omega, pp.2.1, Or.inr ⟨e2, c⟩⟩
        · simp only [if_neg c] at h
          exact absurd h (by simp)
    · rw [if_neg e2] at h; exact absurd h (by simp)
