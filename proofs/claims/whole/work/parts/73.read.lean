/-! AN ITEM, WHOLE -/
def okW (T : Nat → Nat) : Prop := T 0 < 8 ∧ T 1 ≤ 200 ∧ T 2 < 64
def okO (T : Nat → Nat) : Prop := T 0 < 8 ∧ T 1 < 6 ∧ T 2 ≤ T 3 ∧ T 3 ≤ 200 ∧ T 4 < 256
def itm (b : Nat → Nat) (p : Nat) : Option (Nat × (Nat → Nat)) :=
  if b p = 119 then
    match nums b 3 3 0 (p + 1) (fun _ => 0) with
    | none => none
    | some r => if r.2 0 < 8 ∧ r.2 1 ≤ 200 ∧ r.2 2 < 64 then some r else none
  else if b p = 108 ∨ b p = 98 then
    match nums b 5 5 0 (p + 1) (fun _ => 0) with
    | none => none
    | some r => if r.2 0 < 8 ∧ r.2 1 < 6 ∧ r.2 2 ≤ r.2 3 ∧ r.2 3 ≤ 200 ∧ r.2 4 < 256 then some r else none
  else none
theorem isB_if (P : Prop) [Decidable P] : isB (if P then (1 : Int32) else 0) = true := by
  by_cases h : P
  · rw [if_pos h]; decide
  · rw [if_neg h]; decide
theorem w_word (S : St) {w : Nat} (h : w < 2147483648) : fX11_isWord S (nI w) = some (if w < 8 then 1 else 0) := by
  have e := within_n S (a := w) (b := 0) (c := 7) h (by decide) (by decide)
  unfold fX11_isWord
  rw [show (0 : Int32) = nI 0 from rfl, show (7 : Int32) = nI 7 from rfl, e, cal_s, isB_if, gd_t]
  by_cases q : w < 8
  · rw [if_pos q, if_pos (by omega)]
  · rw [if_neg q, if_neg (by omega)]; rfl
theorem w_thing (S : St) {w : Nat} (h : w < 2147483648) : fX11_isThing S (nI w) = some (if w < 6 then 1 else 0) := by
  have e := within_n S (a := w) (b := 0) (c := 5) h (by decide) (by decide)
  unfold fX11_isThing
  rw [show (0 : Int32) = nI 0 from rfl, show (5 : Int32) = nI 5 from rfl, e, cal_s, isB_if, gd_t]
  by_cases q : w < 6
  · rw [if_pos q, if_pos (by omega)]
  · rw [if_neg q, if_neg (by omega)]; rfl
theorem w_year (S : St) {w : Nat} (h : w < 2147483648) : fX11_isYear S (nI w) = some (if w ≤ 200 then 1 else 0) := by
  have e := within_n S (a := w) (b := 0) (c := 200) h (by decide) (by decide)
  unfold fX11_isYear
  rw [show (0 : Int32) = nI 0 from rfl, show (200 : Int32) = nI 200 from rfl, e, cal_s, isB_if, gd_t]
  by_cases q : w ≤ 200
  · rw [if_pos q, if_pos (by omega)]
  · rw [if_neg q, if_neg (by omega)]; rfl
theorem m_year (S : St) {w : Nat} (h : w < 2147483648) : fX12_isYear S (nI w) = some (if w ≤ 200 then 1 else 0) := by
  have e : fX12_in S (nI w).toInt64 0 200 = some (if 0 ≤ w ∧ w ≤ 200 then 1 else 0) := in_n S (a := w) (b := 0) (c := 200) h (by decide) (by decide)
  unfold fX12_isYear
  rw [e, cal_s, isB_if, gd_t]
  by_cases q : w ≤ 200
  · rw [if_pos q, if_pos (by omega)]
  · rw [if_neg q, if_neg (by omega)]
theorem bounds_j (X : St) {m2 w th y z v l : Nat} (g1 : gI X 3 m2 1 = nI w) (g2 : gI X 3 m2 2 = nI th) (g3 : gI X 3 m2 3 = nI y) (g4 : gI X 3 m2 4 = nI z) (g5 : gI X 3 m2 5 = nI v) (hw : w < 1000) (hth : th < 1000) (hy : y < 1000) (hz : z < 1000) (hv : v < 1000) (hl : l < 1000) : fX3_isInBounds_j15 X m2 (nI l) = some (if w < 8 ∧ th < 6 ∧ z ≤ 200 ∧ y ≤ z ∧ v < l then 1 else 0) := by
  have hne : ¬ (1 : Int32) = 0 := by decide
  unfold fX3_isInBounds_j15
  rw [g1, g2, g3, g4, g5, w_word X (by omega), cal_s]
  by_cases c1 : w < 8
  · rw [if_pos c1, if_neg hne, w_thing X (by omega), cal_s]
    by_cases c2 : th < 6
    · rw [if_pos c2, if_neg hne, w_year X (by omega), cal_s]
      by_cases c3 : z ≤ 200
      · rw [if_pos c3, if_neg hne]
        by_cases c4 : y ≤ z
        · rw [if_neg (c_nlt c4 (by omega))]
          by_cases c5 : v < l
          · rw [if_neg (c_nle c5 (by omega)), if_pos ⟨c1, c2, c3, c4, c5⟩]
          · rw [if_pos (c_le (by omega) (by omega)), if_neg (fun q => c5 q.2.2.2.2)]
        · rw [if_pos (c_lt (by omega) (by omega)), if_neg (fun q => c4 q.2.2.2.1)]
      · rw [if_neg c3, if_pos rfl, if_neg (fun q => c3 q.2.2.1)]
    · rw [if_neg c2, if_pos rfl, if_neg (fun q => c2 q.2.1)]
  · rw [if_neg c1, if_pos rfl, if_neg (fun q => c1 q.1)]
def ChR (m2 : Nat) (S S' : St) : Prop := (∀ c n j, ¬ (c = 3 ∧ n = m2) → gI S' c n j = gI S c n j) ∧ (∀ c n j, c ≠ 47 → gA S' c n j = gA S c n j) ∧ gC S' = gC S
theorem ChR.rf (m2 : Nat) (S : St) : ChR m2 S S := ⟨fun _ _ _ _ => rfl, fun _ _ _ _ => rfl, rfl⟩
theorem ChR.pI {m2 : Nat} {S S1 : St} (h : ChR m2 S S1) (j : Nat) (v : Int32) : ChR m2 S (pI S1 3 m2 j v) := ⟨fun c n' j' hc => by rw [gI_pI, if_neg (fun q => hc ⟨q.1, q.2.1⟩)]; exact h.1 c n' j' hc, h.2.1, h.2.2⟩
theorem ChR.of {m2 : Nat} {S S1 : St} (h : OffK 47 S S1) : ChR m2 S S1 := ⟨fun c n j _ => by rw [h.2.1], h.1, h.2.2⟩
/-- what the class's item holds of what was read -/
def HasI (X : St) (m2 l : Nat) (T : Nat → Nat) : Prop := gI X 3 m2 0 = nI l ∧ gI X 3 m2 1 = nI (T 0) ∧ gI X 3 m2 2 = nI (if l = 119 then 0 else T 1) ∧ gI X 3 m2 3 = nI (if l = 119 then T 1 else T 2) ∧ gI X 3 m2 4 = nI (if l = 119 then 200 else T 3) ∧ gI X 3 m2 5 = nI (if l = 119 then T 2 else T 4)
theorem fill_w {X : St} {t m2 : Nat} (ht : t < 2) (hm : m2 < 70) {T : Nat → Nat} (hT : ∀ j, j < 3 → gA X 47 t j = nI (T j)) : ∃ X', fX3_fill X m2 119 t = some X' ∧ ChR m2 X X' ∧ HasI X' m2 119 T := by
  have hne : ¬ (1 : Int32) = 0 := by decide
  have t0 := hT 0 (by decide)
  have t1 := hT 1 (by decide)
  have t2 := hT 2 (by decide)
  refine ⟨pI (pI (pI (pI (pI (pI X 3 m2 0 119) 3 m2 1 (nI (T 0))) 3 m2 2 0) 3 m2 3 (nI (T 1))) 3 m2 4 200) 3 m2 5 (nI (T 2)), ?_, ((((((ChR.rf m2 X).pI _ _).pI _ _).pI _ _).pI _ _).pI _ _).pI _ _, ?_⟩
  · have i0 : ix 0 5 = true := by decide
    have i1 : ix 1 5 = true := by decide
    have i2 : ix 2 5 = true := by decide
    have z0 : (0 : Int32).toNatClampNeg = 0 := by decide
    have z1 : (1 : Int32).toNatClampNeg = 1 := by decide
    have z2 : (2 : Int32).toNatClampNeg = 2 := by decide
    simp only [fX3_fill, fX3_isBook, gd_p hm, gd_p ht, bnd_e, i0, i1, i2, z0, z1, z2, gd_t, gA_pI, t0, t1, t2, gI_pk _ _ _ _ _ _ (show (0 : Nat) ≠ 1 by decide), gI_ps, if_true, cal_s, if_neg hne]
  · unfold HasI
    simp only [if_true]
    refine ⟨?_, ?_, ?_, ?_, ?_, ?_⟩ <;> simp (disch := omega) only [gI_ps, gI_pk] <;> rfl
theorem fill_o {X : St} {t m2 l : Nat} (ht : t < 2) (hm : m2 < 70) (hl : l = 108 ∨ l = 98) {T : Nat → Nat} (hT : ∀ j, j < 5 → gA X 47 t j = nI (T j)) : ∃ X', fX3_fill X m2 (nI l) t = some X' ∧ ChR m2 X X' ∧ HasI X' m2 l T := by
  have hn : ¬ nI l = (119 : Int32) := c_ne (b := 119) (by omega) (by omega) (by decide)
  have hn2 : ¬ l = 119 := by omega
  have t0 := hT 0 (by decide)
  have t1 := hT 1 (by decide)
  have t2 := hT 2 (by decide)
  have t3 := hT 3 (by decide)
  have t4 := hT 4 (by decide)
  refine ⟨pI (pI (pI (pI (pI (pI X 3 m2 0 (nI l)) 3 m2 1 (nI (T 0))) 3 m2 2 (nI (T 1))) 3 m2 3 (nI (T 2))) 3 m2 4 (nI (T 3))) 3 m2 5 (nI (T 4)), ?_, ((((((ChR.rf m2 X).pI _ _).pI _ _).pI _ _).pI _ _).pI _ _).pI _ _, ?_⟩
  · have i0 : ix 0 5 = true := by decide
    have i1 : ix 1 5 = true := by decide
    have i2 : ix 2 5 = true := by decide
    have i3 : ix 3 5 = true := by decide
    have i4 : ix 4 5 = true := by decide
    have z0 : (0 : Int32).toNatClampNeg = 0 := by decide
    have z1 : (1 : Int32).toNatClampNeg = 1 := by decide
    have z2 : (2 : Int32).toNatClampNeg = 2 := by decide
    have z3 : (3 : Int32).toNatClampNeg = 3 := by decide
    have z4 : (4 : Int32).toNatClampNeg = 4 := by decide
    simp only [fX3_fill, fX3_isBook, gd_p hm, gd_p ht, bnd_e, i0, i1, i2, i3, i4, z0, z1, z2, z3, z4, gd_t, gA_pI, t0, t1, t2, t3, t4, gI_pk _ _ _ _ _ _ (show (0 : Nat) ≠ 1 by decide), gI_ps, if_neg hn, cal_s, if_true]
  · unfold HasI
    simp only [if_neg hn2]
    refine ⟨?_, ?_, ?_, ?_, ?_, ?_⟩ <;> simp (disch := omega) only [gI_ps, gI_pk]
theorem ChR.tr {m2 : Nat} {S S1 S2 : St} (h : ChR m2 S S1) (g : ChR m2 S1 S2) : ChR m2 S S2 := ⟨fun c n j hc => (g.1 c n j hc).trans (h.1 c n j hc), fun c n j hc => (g.2.1 c n j hc).trans (h.2.1 c n j hc), g.2.2.trans h.2.2⟩
theorem bounds_w {X : St} {m2 : Nat} (hm : m2 < 70) {T : Nat → Nat} (h : HasI X m2 119 T) (hT : ∀ j, j < 3 → T j < 1000) : fX3_isInBounds X m2 = some (if T 0 < 8 ∧ T 1 ≤ 200 ∧ T 2 < 64 then 1 else 0) := by
  obtain ⟨g0, g1, g2, g3, g4, g5⟩ := h
  rw [if_pos rfl] at g2 g3 g4 g5
  have hb : fX3_isBook X m2 = some 1 := by unfold fX3_isBook; rw [gd_p hm, g0, if_pos (show nI 119 = (119 : Int32) from rfl)]
  have := bounds_j X (l := 64) g1 g2 g3 g4 g5 (hT 0 (by decide)) (by decide) (hT 1 (by decide)) (by decide) (hT 2 (by decide)) (by decide)
  unfold fX3_isInBounds
  rw [gd_p hm, hb, cal_s, if_neg (show ¬ (1 : Int32) = 0 by decide)]
  refine Eq.trans this ?_
  by_cases e : T 0 < 8 ∧ T 1 ≤ 200 ∧ T 2 < 64
  · rw [if_pos e, if_pos (by omega)]
  · rw [if_neg e, if_neg (by omega)]
theorem bounds_o {X : St} {m2 l : Nat} (hm : m2 < 70) (hl : l = 108 ∨ l = 98) {T : Nat → Nat} (h : HasI X m2 l T) (hT : ∀ j, j < 5 → T j < 1000) : fX3_isInBounds X m2 = some (if T 0 < 8 ∧ T 1 < 6 ∧ T 2 ≤ T 3 ∧ T 3 ≤ 200 ∧ T 4 < 256 then 1 else 0) := by
  obtain ⟨g0, g1, g2, g3, g4, g5⟩ := h
  have hn2 : ¬ l = 119 := by omega
  have hn : ¬ nI l = (119 : Int32) := c_ne (b := 119) (by omega) (by omega) (by decide)
  rw [if_neg hn2] at g2 g3 g4 g5
  have hb : fX3_isBook X m2 = some 0 := by unfold fX3_isBook; rw [gd_p hm, g0, if_neg hn]
  have := bounds_j X (l := 256) g1 g2 g3 g4 g5 (hT 0 (by decide)) (hT 1 (by decide)) (hT 2 (by decide)) (hT 3 (by decide)) (hT 4 (by decide)) (by decide)
  unfold fX3_isInBounds
  rw [gd_p hm, hb, cal_s, if_pos rfl]
  refine Eq.trans this ?_
  by_cases e : T 0 < 8 ∧ T 1 < 6 ∧ T 2 ≤ T 3 ∧ T 3 ≤ 200 ∧ T 4 < 256
  · rw [if_pos e, if_pos (by omega)]
  · rw [if_neg e, if_neg (by omega)]
theorem C_read {S : St} {t n p m2 : Nat} {B : Nat → Nat} (h : IvX S t n B) (ht : t < 2) (hm : m2 < 70) (F : Nat) (hF : 1000 ≤ F) (hp : p < n) : ∃ S', ChR m2 S S' ∧ ((itm (byT n B) p = none ∧ fX9_read F S t (nI p) m2 = some (-1, S')) ∨ ∃ r, itm (byT n B) p = some r ∧ fX9_read F S t (nI p) m2 = some (nI r.1, S') ∧ HasI S' m2 (byT n B p) r.2) := by
  have hne : ¬ (1 : Int32) = 0 := by decide
  have h240 := h.1
  have hb := byT_le h p
  have s1 := sign_s h ht (p := p) (by omega)
  have d1 := dq (sgF ⟨_, hb⟩).2.2.1
  have d2 := dq (sgF ⟨_, hb⟩).2.2.2.1
  have d3 := dq (sgF ⟨_, hb⟩).2.2.2.2.1
  have sm := (sgF ⟨_, hb⟩).2.1
  simp only at d1 d2 d3 sm
  unfold fX9_read itm
  rw [gd_p ht, gd_p hm, s1, cal_s]
  by_cases e1 : byT n B p = 119
  · rw [if_pos (d1.mpr e1), if_pos e1, d1.mpr e1]
    unfold fX9_read_j33
    rw [bnd_e, nI_a1]
    obtain ⟨S1, o, r⟩ := C_nums2 (n := n) (B := B) ht F hF m2 119 (c := 3) (by decide) (fun x5_10 S_9 => if (3 : Int32) = 0 then some ((-1), S_9) else cal (fX3_fill S_9 m2 119 t) fun b_11 => cal (fX3_isInBounds b_11 m2) fun b_12 => if b_12 = 0 then some ((-1), b_11) else some (x5_10, b_11)) F 0 (p + 1) (fun _ => 0) S (by decide) (by omega) h (by omega) (fun j hj => by omega)
    rcases r with ⟨rn, rr⟩ | ⟨r, rn, rr, rT⟩
    · refine ⟨S1, ChR.of o, Or.inl ⟨?_, rr⟩⟩
      rw [show (3 : Nat) - 0 = 3 from rfl] at rn
      rw [rn]
    · rw [show (3 : Nat) - 0 = 3 from rfl] at rn
      have pp := nums_post 3 0 (p + 1) _ r rn (by omega)
      obtain ⟨X, f1, f2, f3⟩ := fill_w ht hm rT
      have f4 := bounds_w hm f3 (fun j hj => pp.2.2.2.2 j (by omega) (by omega))
      rw [if_neg (show ¬ (3 : Int32) = 0 by decide), f1, cal_s, f4, cal_s] at rr
      refine ⟨X, (ChR.of o).tr f2, ?_⟩
      rw [rn]
      by_cases c : r.2 0 < 8 ∧ r.2 1 ≤ 200 ∧ r.2 2 < 64
      · rw [if_pos c, if_neg hne] at rr
        exact Or.inr ⟨r, by simp only [if_pos c], rr, by rw [e1]; exact f3⟩
      · rw [if_neg c, if_pos rfl] at rr
        exact Or.inl ⟨by simp only [if_neg c], rr⟩
  · rw [if_neg (fun z => e1 (d1.mp z)), if_neg e1]
    have five : (byT n B p = 108 ∨ byT n B p = 98) → ∃ S', ChR m2 S S' ∧ (((match nums (byT n B) 5 5 0 (p + 1) (fun _ => 0) with
    | none => none
    | some r => if r.2 0 < 8 ∧ r.2 1 < 6 ∧ r.2 2 ≤ r.2 3 ∧ r.2 3 ≤ 200 ∧ r.2 4 < 256 then some r else none) = (none : Option (Nat × (Nat → Nat))) ∧ fX9_read_j28 F S t (nI p) m2 (sg (byT n B p)) = some (-1, S')) ∨ ∃ r, (match nums (byT n B) 5 5 0 (p + 1) (fun _ => 0) with
    | none => none
    | some r => if r.2 0 < 8 ∧ r.2 1 < 6 ∧ r.2 2 ≤ r.2 3 ∧ r.2 3 ≤ 200 ∧ r.2 4 < 256 then some r else none) = some r ∧ fX9_read_j28 F S t (nI p) m2 (sg (byT n B p)) = some (nI r.1, S') ∧ HasI S' m2 (byT n B p) r.2) := by
      intro e2
      rw [sm (by omega)]
      unfold fX9_read_j28 fX9_read_j33
      rw [bnd_e, nI_a1]
      obtain ⟨S1, o, r⟩ := C_nums2 (n := n) (B := B) ht F hF m2 (nI (byT n B p)) (c := 5) (by decide) (fun x5_10 S_9 => if (5 : Int32) = 0 then some ((-1), S_9) else cal (fX3_fill S_9 m2 (nI (byT n B p)) t) fun b_11 => cal (fX3_isInBounds b_11 m2) fun b_12 => if b_12 = 0 then some ((-1), b_11) else some (x5_10, b_11)) F 0 (p + 1) (fun _ => 0) S (by decide) (by omega) h (by omega) (fun j hj => by omega)
      rcases r with ⟨rn, rr⟩ | ⟨r, rn, rr, rT⟩
      · refine ⟨S1, ChR.of o, Or.inl ⟨?_, rr⟩⟩
        rw [show (5 : Nat) - 0 = 5 from rfl] at rn
        rw [rn]
      · rw [show (5 : Nat) - 0 = 5 from rfl] at rn
        have pp := nums_post 5 0 (p + 1) _ r rn (by omega)
        obtain ⟨X, f1, f2, f3⟩ := fill_o ht hm e2 rT
        have f4 := bounds_o hm e2 f3 (fun j hj => pp.2.2.2.2 j (by omega) (by omega))
        rw [if_neg (show ¬ (5 : Int32) = 0 by decide), f1, cal_s, f4, cal_s] at rr
        refine ⟨X, (ChR.of o).tr f2, ?_⟩
        rw [rn]
        by_cases c : r.2 0 < 8 ∧ r.2 1 < 6 ∧ r.2 2 ≤ r.2 3 ∧ r.2 3 ≤ 200 ∧ r.2 4 < 256
        · rw [if_pos c, if_neg hne] at rr
          exact Or.inr ⟨r, by simp only [if_pos c], rr, f3⟩
        · rw [if_neg c, if_pos rfl] at rr
          exact Or.inl ⟨by simp only [if_neg c], rr⟩
    by_cases e2 : byT n B p = 108
    · rw [if_pos (d2.mpr e2), if_pos (Or.inl e2)]
      have := five (Or.inl e2)
      exact this
    · rw [if_neg (fun z => e2 (d2.mp z))]
      by_cases e3 : byT n B p = 98
      · rw [if_pos (d3.mpr e3), if_pos (Or.inr e3)]
        exact five (Or.inr e3)
      · rw [if_neg (fun z => e3 (d3.mp z)), if_neg (show ¬ (byT n B p = 108 ∨ byT n B p = 98) from fun z => z.elim e2 e3)]
        refine ⟨S, ChR.rf _ _, Or.inl ⟨rfl, ?_⟩⟩
        unfold fX9_read_j33
        obtain ⟨F', rfl⟩ : ∃ F', F = F' + 1 := ⟨F - 1, by omega⟩
        rw [bnd_e, fX9_read_L43, fX9_read_b43, if_pos (show (0 : Int32) ≤ 0 by decide), if_pos rfl]
