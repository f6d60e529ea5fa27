/-! WHAT A WORD MEANS -/
def mB (V : Nat → Nat → Nat) (w y : Nat) : Nat → Nat × Nat
  | 0 => (0, 0)
  | i + 1 => if V 0 i = w ∧ (mB V w y i).1 ≤ V 1 i ∧ V 1 i ≤ y then (V 1 i, V 2 i) else mB V w y i
def mI (E : Nat → Nat → Nat) (w y : Nat) (q : Nat × Nat) : Nat → Nat × Nat
  | 0 => q
  | i + 1 => if E 0 i = 119 ∧ E 1 i = w ∧ (mI E w y q i).1 ≤ E 2 i ∧ E 2 i ≤ y then (E 2 i, E 3 i) else mI E w y q i
def mean (V E : Nat → Nat → Nat) (nv ne w y : Nat) : Nat := (mI E w y (mB V w y nv) ne).2
/-- the reference's since, beside the other's latest -/
def sinceOk (s : Int32) (l : Nat) : Prop := s = nI l ∨ (s = -1 ∧ l = 0)
theorem since_f {s : Int32} {l y : Nat} (hs : sinceOk s l) (hy : y ≤ 200) (h : l ≤ y) : (nI y < s) = False := by
  rcases hs with hs | ⟨hs, hl0⟩
  · rw [hs]; exact s_lt_f h (by omega)
  · rw [hs]; apply eq_false; intro q; have := (t_lt _ _).mp q; rw [t_nI (by omega), show (-1 : Int32).toInt = -1 by decide] at this; omega
theorem since_t {s : Int32} {l y : Nat} (hs : sinceOk s l) (hl : l ≤ 200) (h : y < l) : (nI y < s) = True := by
  rcases hs with hs | ⟨hs, hl0⟩
  · rw [hs]; exact s_lt_t h (by omega)
  · omega
theorem within_n (S : St) {a b c : Nat} (ha : a < 2147483648) (hb : b < 2147483648) (hc : c < 2147483648) : fX11_within S (nI a) (nI b) (nI c) = some (if b ≤ a ∧ a ≤ c then 1 else 0) := by
  rw [within_s, t_nI ha, t_nI hb, t_nI hc]
  by_cases e : b ≤ a ∧ a ≤ c
  · rw [if_pos e, if_pos (by omega)]
  · rw [if_neg e, if_neg (by omega)]
theorem in_n (S : St) {a b c : Nat} (ha : a < 2147483648) (hb : b < 2147483648) (hc : c < 2147483648) : fX12_in S (nI a).toInt64 (nI b).toInt64 (nI c).toInt64 = some (if b ≤ a ∧ a ≤ c then 1 else 0) := by
  rw [in_s, i64_toInt, i64_toInt, i64_toInt, t_nI ha, t_nI hb, t_nI hc]
  by_cases e : b ≤ a ∧ a ≤ c
  · rw [if_pos e, if_pos (by omega)]
  · rw [if_neg e, if_neg (by omega)]
theorem mB_le {V : Nat → Nat → Nat} {w y n : Nat} (h : ∀ i, i < n → V 1 i ≤ 200 ∧ V 2 i < 64) : (mB V w y n).1 ≤ 200 ∧ (mB V w y n).2 < 64 := by
  induction n with
  | zero => exact ⟨by simp [mB], by simp [mB]⟩
  | succ n ih =>
    unfold mB
    by_cases e : V 0 n = w ∧ (mB V w y n).1 ≤ V 1 n ∧ V 1 n ≤ y
    · rw [if_pos e]; exact h n (by omega)
    · rw [if_neg e]; exact ih (fun i hi => h i (by omega))
theorem mI_le {E : Nat → Nat → Nat} {w y n : Nat} {q : Nat × Nat} (hq : q.1 ≤ 200 ∧ q.2 < 64) (h : ∀ i, i < n → E 0 i = 119 → E 2 i ≤ 200 ∧ E 3 i < 64) : (mI E w y q n).1 ≤ 200 ∧ (mI E w y q n).2 < 64 := by
  induction n with
  | zero => exact hq
  | succ n ih =>
    unfold mI
    by_cases e : E 0 n = 119 ∧ E 1 n = w ∧ (mI E w y q n).1 ≤ E 2 n ∧ E 2 n ≤ y
    · rw [if_pos e]; exact h n (by omega) e.1
    · rw [if_neg e]; exact ih (fun i hi => h i (by omega))
theorem C_mB {S : St} {t nv : Nat} {V : Nat → Nat → Nat} (h : IvW S t nv V) (F w y : Nat) (hw : w < 8) (hy : y ≤ 200) (k : Int32 → Int32 → Option Int32) : ∀ m i, i ≤ nv → nv < i + m → fX10_meaningOf_L8 F S t (nI w) (nI y) k m (nI (mB V w y i).2) (nI (mB V w y i).1) (nI i) = k (nI (mB V w y nv).2) (nI (mB V w y nv).1) := by
  obtain ⟨h0, h1, h2, h3⟩ := h
  intro m
  induction m with
  | zero => intro i q1 q2; omega
  | succ m ih =>
    intro i q1 q2
    simp only [fX10_meaningOf_L8, fX10_meaningOf_b8, h1]
    by_cases e : i = nv
    · subst e; rw [if_pos (c_le (Nat.le_refl _) (by omega))]
    · rw [if_neg (c_nle (show i < nv by omega) (by omega))]
      obtain ⟨a0, a1, a2, -, -, -, x0, x1, x2⟩ := h3 i (by omega)
      have hle := (mB_le (V := V) (w := w) (y := y) (n := i) (fun j hj => ⟨(h3 j (by omega)).2.2.2.2.2.2.2.1, (h3 j (by omega)).2.2.2.2.2.2.2.2⟩)).1
      have ihh := ih (i + 1) (by omega) (by omega)
      rw [← ihh]
      simp only [ix_nI (show i < 20 by omega) (by decide), gd_t, cl (show i < 2147483648 by omega), a0, a1, a2, bnd_e, nI_a1, mB, within_n S (show V 1 i < 2147483648 by omega) (show (mB V w y i).1 < 2147483648 by omega) (show y < 2147483648 by omega), cal_s]
      by_cases e1 : V 0 i = w
      · rw [if_pos (show nI (V 0 i) = nI w by rw [e1])]
        by_cases e2 : (mB V w y i).1 ≤ V 1 i ∧ V 1 i ≤ y
        · rw [if_pos e2, if_neg (show ¬ ((1 : Int32) = 0) by decide), if_pos ⟨e1, e2⟩]
        · rw [if_neg e2, if_pos rfl, if_neg (fun q => e2 q.2)]
      · rw [if_neg (c_ne e1 (by omega) (by omega)), if_neg (fun q => e1 q.1)]
theorem it_ix {t i : Nat} (ht : t < 2) (hi : i < 34) : 34 * t + i < 70 := by omega
theorem book_s {S : St} {t n i : Nat} {E : Nat → Nat → Nat} (h : IvI S t n E) (ht : t < 2) (hi : i < n) : fX3_isBook S (34 * t + i) = some (if E 0 i = 119 then 1 else 0) := by
  obtain ⟨h0, h1, h2, h3⟩ := h
  have q := h3 i hi
  have hr : E 0 i < 200 := by
    rcases q.2.2.2.2.2.2.2.2.2.2.2.2 with x | x <;> omega
  unfold fX3_isBook
  rw [gd_p (it_ix ht (by omega)), q.1]
  by_cases e : E 0 i = 119
  · have : nI (E 0 i) = (119 : Int32) := by rw [e]; rfl
    rw [if_pos this, if_pos e]
  · have : ¬ nI (E 0 i) = (119 : Int32) := c_ne (b := 119) e (by omega) (by decide)
    rw [if_neg this, if_neg e]
theorem C_mI {S : St} {t n : Nat} {E : Nat → Nat → Nat} (h : IvI S t n E) (ht : t < 2) (F w y : Nat) (hw : w < 8) (hy : y ≤ 200) (q : Nat × Nat) (hq : q.1 ≤ 200 ∧ q.2 < 64) : ∀ m i, i ≤ n → n < i + m → fX10_meaningOf_L70 F S t (nI w) (nI y) m (nI (mI E w y q i).2) (nI (mI E w y q i).1) (nI i) = some (nI (mI E w y q n).2) := by
  obtain ⟨h0, h1, h2, h3⟩ := id h
  have hE : ∀ i, i < n → E 0 i = 119 → E 2 i ≤ 200 ∧ E 3 i < 64 := fun i hi e => by
    rcases (h3 i hi).2.2.2.2.2.2.2.2.2.2.2.2 with x | x <;> omega
  intro m
  induction m with
  | zero => intro i q1 q2; omega
  | succ m ih =>
    intro i q1 q2
    simp only [fX10_meaningOf_L70, fX10_meaningOf_b70, h1]
    by_cases e : i = n
    · subst e; rw [if_pos (c_le (Nat.le_refl _) (by omega))]
    · rw [if_neg (c_nle (show i < n by omega) (by omega))]
      have hx := h3 i (by omega)
      have hle := (mI_le (E := E) (w := w) (y := y) (n := i) hq (fun j hj => hE j (by omega))).1
      have ihh := ih (i + 1) (by omega) (by omega)
      rw [← ihh]
      simp only [ix_nI (show i < 34 by omega) (by decide), gd_t, cl (show i < 2147483648 by omega), book_s h ht (show i < n by omega), cal_s, mI]
      by_cases eb : E 0 i = 119
      · obtain ⟨x0, x1⟩ := hE i (by omega) eb
        have hw1 : E 1 i < 8 := by rcases hx.2.2.2.2.2.2.2.2.2.2.2.2 with x | x <;> omega
        have c1 := hx.2.1
        have c3 := hx.2.2.2.1
        have c5 := hx.2.2.2.2.2.1
        rw [if_pos eb] at c3 c5
        simp only [if_pos eb, if_neg (show ¬ ((1 : Int32) = 0) by decide), c1, c3, c5, bnd_e, nI_a1, within_n S (show E 2 i < 2147483648 by omega) (show (mI E w y q i).1 < 2147483648 by omega) (show y < 2147483648 by omega), cal_s]
        by_cases e1 : E 1 i = w
        · rw [if_pos (show nI (E 1 i) = nI w by rw [e1])]
          by_cases e2 : (mI E w y q i).1 ≤ E 2 i ∧ E 2 i ≤ y
          · rw [if_pos e2, if_neg (show ¬ ((1 : Int32) = 0) by decide), if_pos ⟨eb, e1, e2⟩]
          · rw [if_neg e2, if_pos rfl, if_neg (fun z => e2 z.2.2)]
        · rw [if_neg (c_ne e1 (by omega) (by omega)), if_neg (fun z => e1 z.2.1)]
      · rw [if_neg eb, if_pos rfl, if_neg (fun z => eb z.1), nI_a1]
theorem C_mean {S : St} {t nv n : Nat} {V E : Nat → Nat → Nat} (hv : IvW S t nv V) (h : IvI S t n E) (ht : t < 2) (F w y : Nat) (hF : 1000 ≤ F) (hw : w < 8) (hy : y ≤ 200) : fX10_meaningOf F S t (nI w) (nI y) = some (nI (mean V E nv n w y)) := by
  unfold fX10_meaningOf
  rw [gd_p ht]
  have a := C_mB hv F w y hw hy (fun x3_4 x4_5 => fX10_meaningOf_L70 F S t (nI w) (nI y) F x3_4 x4_5 0) F 0 (by omega) (by have := hv.1; omega)
  refine Eq.trans a ?_
  exact C_mI h ht F w y hw hy (mB V w y nv) (mB_le (fun j hj => ⟨(hv.2.2.2 j hj).2.2.2.2.2.2.2.1, (hv.2.2.2 j hj).2.2.2.2.2.2.2.2⟩)) F 0 (by omega) (by have := h.1; omega)
theorem M_mB {S : St} {t nv : Nat} {V : Nat → Nat → Nat} (h : IvW S t nv V) (ht : t < 2) (F w y : Nat) (hw : w < 8) (hy : y ≤ 200) (k : Int32 → Int32 → Option Int32) : ∀ m i s, i ≤ nv → nv < i + m → sinceOk s (mB V w y i).1 → ∃ s', sinceOk s' (mB V w y nv).1 ∧ fX12_meaning_L9 F S (nI t) (nI w) (nI y) k m s (nI (mB V w y i).2) (nI i) = k s' (nI (mB V w y nv).2) := by
  obtain ⟨h0, h1, h2, h3⟩ := h
  intro m
  induction m with
  | zero => intro i s q1 q2; omega
  | succ m ih =>
    intro i s q1 q2 hs
    simp only [fX12_meaning_L9, fX12_meaning_b9, ix_nI (show t < 2 by omega) (by decide), gd_t, cl (show t < 2147483648 by omega), h2]
    by_cases e : i = nv
    · subst e; exact ⟨s, hs, by rw [if_pos (c_le (Nat.le_refl _) (by omega))]⟩
    · rw [if_neg (c_nle (show i < nv by omega) (by omega))]
      obtain ⟨-, -, -, a0, a1, a2, x0, x1, x2⟩ := h3 i (by omega)
      have hle := (mB_le (V := V) (w := w) (y := y) (n := i) (fun j hj => ⟨(h3 j (by omega)).2.2.2.2.2.2.2.1, (h3 j (by omega)).2.2.2.2.2.2.2.2⟩)).1
      have e1 : (60 : Int32) * nI t + (3 : Int32) * nI i = nI (60 * t + 3 * i) := by rw [show (60 : Int32) * nI t = nI (60 * t) from pk_mul 60 t, show (3 : Int32) * nI i = nI (3 * i) from pk_mul 3 i, nI_add]
      have f1 : nI (60 * t + 3 * i) + 1 = nI (60 * t + 3 * i + 1) := nI_add _ 1
      have f2 : nI (60 * t + 3 * i) + 2 = nI (60 * t + 3 * i + 2) := nI_add _ 2
      simp only [e1, bnd_e, f1, f2, ix_nI (show 60 * t + 3 * i < 120 by omega) (by decide), ix_nI (show 60 * t + 3 * i + 1 < 120 by omega) (by decide), ix_nI (show 60 * t + 3 * i + 2 < 120 by omega) (by decide), gd_t, cl (show 60 * t + 3 * i < 2147483648 by omega), cl (show 60 * t + 3 * i + 1 < 2147483648 by omega), cl (show 60 * t + 3 * i + 2 < 2147483648 by omega), a0, a1, a2, nI_a1]
      by_cases ew : V 0 i = w
      · rw [if_pos (show nI (V 0 i) = nI w by rw [ew])]
        by_cases ey : V 1 i ≤ y
        · rw [if_neg (c_nlt ey (by omega))]
          by_cases el : (mB V w y i).1 ≤ V 1 i
          · have hq : mB V w y (i + 1) = (V 1 i, V 2 i) := by rw [mB, if_pos ⟨ew, el, ey⟩]
            have := ih (i + 1) (nI (V 1 i)) (by omega) (by omega) (by rw [hq]; exact Or.inl rfl)
            rw [hq] at this
            simp only [since_f hs x1 el, if_false]
            exact this
          · have hq : mB V w y (i + 1) = mB V w y i := by rw [mB, if_neg (fun z => el z.2.1)]
            have := ih (i + 1) s (by omega) (by omega) (by rw [hq]; exact hs)
            rw [hq] at this
            simp only [since_t hs hle (show V 1 i < (mB V w y i).1 by omega), if_true]
            exact this
        · have hq : mB V w y (i + 1) = mB V w y i := by rw [mB, if_neg (fun z => ey z.2.2)]
          have := ih (i + 1) s (by omega) (by omega) (by rw [hq]; exact hs)
          rw [hq] at this
          rw [if_pos (c_lt (by omega) (by omega))]
          exact this
      · have hq : mB V w y (i + 1) = mB V w y i := by rw [mB, if_neg (fun z => ew z.1)]
        have := ih (i + 1) s (by omega) (by omega) (by rw [hq]; exact hs)
        rw [hq] at this
        rw [if_neg (c_ne ew (by omega) (by omega))]
        exact this
theorem M_mI {S : St} {t n : Nat} {E : Nat → Nat → Nat} (h : IvI S t n E) (ht : t < 2) (F w y : Nat) (hw : w < 8) (hy : y ≤ 200) (q : Nat × Nat) (hq : q.1 ≤ 200 ∧ q.2 < 64) : ∀ m i s, i ≤ n → n < i + m → sinceOk s (mI E w y q i).1 → fX12_meaning_L100 F S (nI t) (nI w) (nI y) m s (nI (mI E w y q i).2) (nI i) = some (nI (mI E w y q n).2) := by
  obtain ⟨h0, h1, h2, h3⟩ := id h
  have hE : ∀ i, i < n → E 0 i = 119 → E 2 i ≤ 200 ∧ E 3 i < 64 := fun i hi e => by
    rcases (h3 i hi).2.2.2.2.2.2.2.2.2.2.2.2 with x | x <;> omega
  intro m
  induction m with
  | zero => intro i s q1 q2; omega
  | succ m ih =>
    intro i s q1 q2 hs
    simp only [fX12_meaning_L100, fX12_meaning_b100, ix_nI (show t < 3 by omega) (by decide), gd_t, cl (show t < 2147483648 by omega), h2]
    by_cases e : i = n
    · subst e; rw [if_pos (c_le (Nat.le_refl _) (by omega))]
    · rw [if_neg (c_nle (show i < n by omega) (by omega))]
      obtain ⟨-, -, -, -, -, -, a0, a1, a2, a3, a4, a5, x⟩ := h3 i (by omega)
      have hle := (mI_le (E := E) (w := w) (y := y) (n := i) hq (fun j hj => hE j (by omega))).1
      have hr : E 0 i < 200 ∧ E 1 i < 8 := by rcases x with x | x <;> omega
      have e1 : (240 : Int32) * nI t + (6 : Int32) * nI i = nI (240 * t + 6 * i) := by rw [show (240 : Int32) * nI t = nI (240 * t) from pk_mul 240 t, show (6 : Int32) * nI i = nI (6 * i) from pk_mul 6 i, nI_add]
      have f1 : nI (240 * t + 6 * i) + 1 = nI (240 * t + 6 * i + 1) := nI_add _ 1
      have f2 : nI (240 * t + 6 * i) + 2 = nI (240 * t + 6 * i + 2) := nI_add _ 2
      have f3 : nI (240 * t + 6 * i) + 3 = nI (240 * t + 6 * i + 3) := nI_add _ 3
      simp only [e1, bnd_e, f1, f2, f3, ix_nI (show 240 * t + 6 * i < 720 by omega) (by decide), ix_nI (show 240 * t + 6 * i + 1 < 720 by omega) (by decide), ix_nI (show 240 * t + 6 * i + 2 < 720 by omega) (by decide), ix_nI (show 240 * t + 6 * i + 3 < 720 by omega) (by decide), gd_t, cl (show 240 * t + 6 * i < 2147483648 by omega), cl (show 240 * t + 6 * i + 1 < 2147483648 by omega), cl (show 240 * t + 6 * i + 2 < 2147483648 by omega), cl (show 240 * t + 6 * i + 3 < 2147483648 by omega), a0, a1, a2, a3, nI_a1]
      by_cases eb : E 0 i = 119
      · have eb2 : nI (E 0 i) = (119 : Int32) := by rw [eb]; rfl
        obtain ⟨x1, x2⟩ := hE i (by omega) eb
        rw [if_pos eb2]
        by_cases ew : E 1 i = w
        · rw [if_pos (show nI (E 1 i) = nI w by rw [ew])]
          by_cases ey : E 2 i ≤ y
          · rw [if_neg (c_nlt ey (by omega))]
            by_cases el : (mI E w y q i).1 ≤ E 2 i
            · have hq2 : mI E w y q (i + 1) = (E 2 i, E 3 i) := by rw [mI, if_pos ⟨eb, ew, el, ey⟩]
              have := ih (i + 1) (nI (E 2 i)) (by omega) (by omega) (by rw [hq2]; exact Or.inl rfl)
              rw [hq2] at this
              simp only [since_f hs x1 el, if_false]
              exact this
            · have hq2 : mI E w y q (i + 1) = mI E w y q i := by rw [mI, if_neg (fun z => el z.2.2.1)]
              have := ih (i + 1) s (by omega) (by omega) (by rw [hq2]; exact hs)
              rw [hq2] at this
              simp only [since_t hs hle (show E 2 i < (mI E w y q i).1 by omega), if_true]
              exact this
          · have hq2 : mI E w y q (i + 1) = mI E w y q i := by rw [mI, if_neg (fun z => ey z.2.2.2)]
            have := ih (i + 1) s (by omega) (by omega) (by rw [hq2]; exact hs)
            rw [hq2] at this
            rw [if_pos (c_lt (by omega) (by omega))]
            exact this
        · have hq2 : mI E w y q (i + 1) = mI E w y q i := by rw [mI, if_neg (fun z => ew z.2.1)]
          have := ih (i + 1) s (by omega) (by omega) (by rw [hq2]; exact hs)
          rw [hq2] at this
          rw [if_neg (c_ne ew (by omega) (by omega))]
          exact this
      · have eb2 : ¬ nI (E 0 i) = (119 : Int32) := c_ne (b := 119) eb (by omega) (by decide)
        have hq2 : mI E w y q (i + 1) = mI E w y q i := by rw [mI, if_neg (fun z => eb z.1)]
        have := ih (i + 1) s (by omega) (by omega) (by rw [hq2]; exact hs)
        rw [hq2] at this
        rw [if_neg eb2]
        exact this
theorem M_mean {S : St} {t nv n : Nat} {V E : Nat → Nat → Nat} (hv : IvW S t nv V) (h : IvI S t n E) (ht : t < 2) (F w y : Nat) (hF : 1000 ≤ F) (hw : w < 8) (hy : y ≤ 200) : fX12_meaning F S (nI t) (nI w) (nI y) = some (nI (mean V E nv n w y)) := by
  obtain ⟨s', hs', a⟩ := M_mB hv ht F w y hw hy (fun x4_4 x5_5 => fX12_meaning_L100 F S (nI t) (nI w) (nI y) F x4_4 x5_5 0) F 0 (-1) (by omega) (by have := hv.1; omega) (Or.inr ⟨rfl, rfl⟩)
  unfold fX12_meaning
  refine Eq.trans a ?_
  exact M_mI h ht F w y hw hy (mB V w y nv) (mB_le (fun j hj => ⟨(hv.2.2.2 j hj).2.2.2.2.2.2.2.1, (hv.2.2.2 j hj).2.2.2.2.2.2.2.2⟩)) F 0 s' (by omega) (by have := h.1; omega) hs'
theorem mean_lt {S : St} {t nv n : Nat} {V E : Nat → Nat → Nat} (hv : IvW S t nv V) (h : IvI S t n E) (w y : Nat) : mean V E nv n w y < 64 := (mI_le (mB_le (fun j hj => ⟨(hv.2.2.2 j hj).2.2.2.2.2.2.2.1, (hv.2.2.2 j hj).2.2.2.2.2.2.2.2⟩)) (fun i hi e => by
  rcases (h.2.2.2 i hi).2.2.2.2.2.2.2.2.2.2.2.2 with x | x <;> omega)).2
theorem Q_means {S : St} {nv n : Nat → Nat} {V E : Nat → Nat → Nat → Nat} (hv : ∀ t, t < 2 → IvW S t (nv t) (V t)) (h : ∀ t, t < 2 → IvI S t (n t) (E t)) (F : Nat) (hF : 1000 ≤ F) (p1 p2 p3 : Int32) : ∃ r, fX11_means F S p1 p2 p3 = some r ∧ fX12_means F S p1 p2 p3 = some r := by
  have hne : ¬ (1 : Int32) = 0 := by decide
  rcases a_tongue p1 with ⟨c1, m1⟩ | ⟨t, rfl, u1, c1, m1⟩
  · exact ⟨-1, by simp only [fX11_means, c1, cal_s]; rfl, by simp only [fX12_means, m1, cal_s]; rfl⟩
  rcases a_word p2 with ⟨c2, m2⟩ | ⟨w, rfl, u2, c2, m2⟩
  · exact ⟨-1, by simp only [fX11_means, c1, c2, cal_s, if_neg hne]; rfl, by simp only [fX12_means, m1, m2, cal_s, if_neg hne]; rfl⟩
  rcases a_year p3 with ⟨c3, m3⟩ | ⟨y, rfl, u3, c3, m3⟩
  · exact ⟨-1, by simp only [fX11_means, c1, c2, c3, cal_s, if_neg hne]; rfl, by simp only [fX12_means, m1, m2, m3, cal_s, if_neg hne]; rfl⟩
  have r1 := C_mean (hv t u1) (h t u1) u1 F w y hF u2 u3
  have r2 := M_mean (hv t u1) (h t u1) u1 F w y hF u2 u3
  exact ⟨_, by simp only [fX11_means, c1, c2, c3, cal_s, if_neg hne, tongue_of S u1, gd_p u1]; rw [r1]; rfl, by simp only [fX12_means, m1, m2, m3, cal_s, if_neg hne]; rw [r2]; rfl⟩
