/-! WHAT RULES AN ACT -/
def mt (E : Nat → Nat → Nat) (M : Nat → Nat) (v th y f i : Nat) : Bool := decide (E 0 i ≠ 119 ∧ E 2 i = th ∧ E 3 i ≤ y ∧ y ≤ E 4 i) && ((M (E 1 i)).testBit v && decide (nI (E 5 i) &&& (nI f ^^^ -1) = 0))
theorem mt_iff (E : Nat → Nat → Nat) (M : Nat → Nat) (v th y f i : Nat) : mt E M v th y f i = true ↔ ((E 0 i ≠ 119 ∧ E 2 i = th ∧ E 3 i ≤ y ∧ y ≤ E 4 i) ∧ (M (E 1 i)).testBit v = true ∧ nI (E 5 i) &&& (nI f ^^^ -1) = 0) := by simp only [mt, Bool.and_eq_true, decide_eq_true_eq]
def rl (E : Nat → Nat → Nat) (M : Nat → Nat) (v th y f : Nat) : Nat → Nat
  | 0 => 0
  | i + 1 => if mt E M v th y f i = true then i + 1 else rl E M v th y f i
def rcode (r : Nat) : Int32 := if r = 0 then -4 else nI (r - 1)
theorem rl_le (E : Nat → Nat → Nat) (M : Nat → Nat) (v th y f n : Nat) : rl E M v th y f n ≤ n := by
  induction n with
  | zero => exact Nat.le_refl _
  | succ n ih =>
    unfold rl
    split
    · exact Nat.le_refl _
    · omega
theorem speaks_s {S : St} {t n i : Nat} {E : Nat → Nat → Nat} (h : IvI S t n E) (ht : t < 2) (hi : i < n) {th y : Nat} (hth : th < 6) (hy : y ≤ 200) : fX3_speaksOf S (34 * t + i) (nI th) (nI y) = some (if E 0 i ≠ 119 ∧ E 2 i = th ∧ E 3 i ≤ y ∧ y ≤ E 4 i then 1 else 0) := by
  have hb := book_s h ht hi
  obtain ⟨h0, h1, h2, h3⟩ := id h
  have q := h3 i hi
  unfold fX3_speaksOf
  rw [gd_p (it_ix ht (by omega)), hb, cal_s]
  by_cases e : E 0 i = 119
  · rw [if_pos e, if_neg (show ¬ (1 : Int32) = 0 by decide), if_neg (fun z => z.1 e)]
  · have c2 := q.2.2.1
    have c3 := q.2.2.2.1
    have c4 := q.2.2.2.2.1
    rw [if_neg e] at c2 c3 c4
    have x : E 2 i < 6 ∧ E 3 i ≤ 200 ∧ E 4 i ≤ 200 := by
      rcases q.2.2.2.2.2.2.2.2.2.2.2.2 with x | x <;> omega
    rw [if_neg e, if_pos rfl, c2, c3, c4]
    by_cases e2 : E 2 i = th
    · rw [if_pos (show nI (E 2 i) = nI th by rw [e2]), within_n S (show y < 2147483648 by omega) (show E 3 i < 2147483648 by omega) (show E 4 i < 2147483648 by omega), cal_s]
      by_cases e3 : E 3 i ≤ y ∧ y ≤ E 4 i
      · rw [if_pos e3, if_neg (show ¬ (1 : Int32) = 0 by decide), if_pos ⟨e, e2, e3⟩]
      · rw [if_neg e3, if_pos rfl, if_neg (fun z => e3 z.2.2)]
    · rw [if_neg (c_ne e2 (by omega) (by omega)), if_neg (fun z => e2 z.2.1)]
theorem C_rl {S : St} {t n : Nat} {E : Nat → Nat → Nat} {M : Nat → Nat} (h : IvI S t n E) (ht : t < 2) (hW : ∀ w, w < 8 → gA S 52 t w = nI (M w) ∧ M w < 64) (F v th y f : Nat) (hv : v < 6) (hth : th < 6) (hy : y ≤ 200) : ∀ m j, j ≤ n → j < m → fX10_ruling_L8 F S t (nI v) (nI th) (nI y) (nI f) m (nI j - 1) = some (rcode (rl E M v th y f j)) := by
  obtain ⟨h0, h1, h2, h3⟩ := id h
  have hne : ¬ (1 : Int32) = 0 := by decide
  intro m
  induction m with
  | zero => intro j q1 q2; omega
  | succ m ih =>
    intro j q1 q2
    simp only [fX10_ruling_L8, fX10_ruling_b8]
    cases j with
    | zero => rw [if_pos (show nI 0 - 1 < 0 by decide)]; rfl
    | succ i =>
      have e1 : nI (i + 1) - 1 = nI i := nI_subn (a := i + 1) (b := 1) (by omega)
      have e0 : ¬ nI i < 0 := nI_pos (by omega)
      have ihh := ih i (by omega) (by omega)
      have em : nI i + -1 = nI i - 1 := by rw [Int32.sub_eq_add_neg]
      have q := h3 i (by omega)
      have hw1 : E 1 i < 8 ∧ (E 0 i ≠ 119 → E 5 i < 256) := by
        rcases q.2.2.2.2.2.2.2.2.2.2.2.2 with x | x <;> omega
      rw [e1, if_neg e0]
      simp only [ix_nI (show i < 34 by omega) (by decide), gd_t, cl (show i < 2147483648 by omega), speaks_s h ht (show i < n by omega) hth hy, cal_s, q.2.1, ix_nI hw1.1 (by decide), cl (show E 1 i < 2147483648 by omega), (hW _ hw1.1).1, hb_c, hb_nI (show M (E 1 i) < 2147483648 by have := (hW _ hw1.1).2; omega) (show v < 31 by omega), em]
      by_cases c1 : E 0 i ≠ 119 ∧ E 2 i = th ∧ E 3 i ≤ y ∧ y ≤ E 4 i
      · have c5 := q.2.2.2.2.2.1
        rw [if_neg c1.1] at c5
        rw [if_pos c1, if_neg hne]
        by_cases c2 : (M (E 1 i)).testBit v = true
        · rw [if_pos c2, if_neg hne, c5]
          by_cases c3 : nI (E 5 i) &&& (nI f ^^^ -1) = 0
          · have hm : mt E M v th y f i = true := (mt_iff _ _ _ _ _ _ _).mpr ⟨c1, c2, c3⟩
            rw [if_pos c3, rl, if_pos hm]; rfl
          · have hm : ¬ mt E M v th y f i = true := fun z => c3 ((mt_iff _ _ _ _ _ _ _).mp z).2.2
            rw [if_neg c3, rl, if_neg hm, ihh]
        · have hm : ¬ mt E M v th y f i = true := fun z => c2 ((mt_iff _ _ _ _ _ _ _).mp z).2.1
          rw [if_neg c2, if_pos rfl, rl, if_neg hm, ihh]
      · have hm : ¬ mt E M v th y f i = true := fun z => c1 ((mt_iff _ _ _ _ _ _ _).mp z).1
        rw [if_neg c1, if_pos rfl, rl, if_neg hm, ihh]
theorem C_ruling {S : St} {t n : Nat} {E : Nat → Nat → Nat} {M : Nat → Nat} (h : IvI S t n E) (ht : t < 2) (hW : ∀ w, w < 8 → gA S 52 t w = nI (M w) ∧ M w < 64) (F v th y f : Nat) (hF : 1000 ≤ F) (hv : v < 6) (hth : th < 6) (hy : y ≤ 200) : fX10_ruling F S t (nI v) (nI th) (nI y) (nI f) = some (rcode (rl E M v th y f n)) := by
  unfold fX10_ruling
  rw [gd_p ht, bnd_e, h.2.1]
  exact C_rl h ht hW F v th y f hv hth hy F n (Nat.le_refl _) (by have := h.1; omega)
theorem act6 : ∀ a : Fin 36, nI a.val / 6 = nI (a.val / 6) ∧ nI a.val - nI (a.val / 6) * 6 = nI (a.val % 6) := by decide
theorem M_rl {S : St} {t n : Nat} {E : Nat → Nat → Nat} {M : Nat → Nat} (h : IvI S t n E) (ht : t < 2) (hW : ∀ w, w < 8 → gA S 74 0 (8 * t + w) = nI (M w) ∧ M w < 64) (F a y f : Nat) (ha : a < 36) (hy : y ≤ 200) : ∀ m i, i ≤ n → n < i + m → fX12_whyOf_L7 F S (nI t) (nI a) (nI y) (nI f) m (rcode (rl E M (a / 6) (a % 6) y f i)) (nI i) = some (rcode (rl E M (a / 6) (a % 6) y f n)) := by
  obtain ⟨h0, h1, h2, h3⟩ := id h
  have hne : ¬ (1 : Int32) = 0 := by decide
  have a6 := act6 ⟨a, ha⟩
  simp only at a6
  intro m
  induction m with
  | zero => intro i q1 q2; omega
  | succ m ih =>
    intro i q1 q2
    simp only [fX12_whyOf_L7, fX12_whyOf_b7, ix_nI (show t < 3 by omega) (by decide), gd_t, cl (show t < 2147483648 by omega), h2]
    by_cases e : i = n
    · subst e; rw [if_pos (c_le (Nat.le_refl _) (by omega))]
    · rw [if_neg (c_nle (show i < n by omega) (by omega))]
      obtain ⟨-, -, -, -, -, -, b0, b1, b2, b3, b4, b5, x⟩ := h3 i (by omega)
      have hr : E 0 i < 200 ∧ E 1 i < 8 := by rcases x with x | x <;> omega
      have e1 : (240 : Int32) * nI t + (6 : Int32) * nI i = nI (240 * t + 6 * i) := by rw [show (240 : Int32) * nI t = nI (240 * t) from pk_mul 240 t, show (6 : Int32) * nI i = nI (6 * i) from pk_mul 6 i, nI_add]
      have f1 : nI (240 * t + 6 * i) + 1 = nI (240 * t + 6 * i + 1) := nI_add _ 1
      have f2 : nI (240 * t + 6 * i) + 2 = nI (240 * t + 6 * i + 2) := nI_add _ 2
      have f3 : nI (240 * t + 6 * i) + 3 = nI (240 * t + 6 * i + 3) := nI_add _ 3
      have f4 : nI (240 * t + 6 * i) + 4 = nI (240 * t + 6 * i + 4) := nI_add _ 4
      have f5 : nI (240 * t + 6 * i) + 5 = nI (240 * t + 6 * i + 5) := nI_add _ 5
      have e8 : (8 : Int32) * nI t + nI (E 1 i) = nI (8 * t + E 1 i) := by rw [show (8 : Int32) * nI t = nI (8 * t) from pk_mul 8 t, nI_add]
      have hw := hW _ hr.2
      have d6 : (!(decide ((6 : Int32) = (0 : Int32)))) = true := by decide
      simp only [fX12_whyOf_j91, fX12_whyOf_j92, e1, bnd_e, f1, f2, f3, f4, f5, ix_nI (show 240 * t + 6 * i < 720 by omega) (by decide), ix_nI (show 240 * t + 6 * i + 1 < 720 by omega) (by decide), ix_nI (show 240 * t + 6 * i + 2 < 720 by omega) (by decide), ix_nI (show 240 * t + 6 * i + 3 < 720 by omega) (by decide), ix_nI (show 240 * t + 6 * i + 4 < 720 by omega) (by decide), ix_nI (show 240 * t + 6 * i + 5 < 720 by omega) (by decide), gd_t, cl (show 240 * t + 6 * i < 2147483648 by omega), cl (show 240 * t + 6 * i + 1 < 2147483648 by omega), cl (show 240 * t + 6 * i + 2 < 2147483648 by omega), cl (show 240 * t + 6 * i + 3 < 2147483648 by omega), cl (show 240 * t + 6 * i + 4 < 2147483648 by omega), cl (show 240 * t + 6 * i + 5 < 2147483648 by omega), b0, b1, b2, b3, b4, b5, nI_a1, d6, a6.1, a6.2, e8, ix_nI (show 8 * t + E 1 i < 16 by omega) (by decide), cl (show 8 * t + E 1 i < 2147483648 by omega), hw.1, hb_m, hb_nI (show M (E 1 i) < 2147483648 by omega) (show a / 6 < 31 by omega), cal_s, if_neg hne, if_pos (show (0 : Int32) = 0 from rfl), if_true]
      have ihs : ∀ r, (rl E M (a / 6) (a % 6) y f (i + 1)) = r → fX12_whyOf_L7 F S (nI t) (nI a) (nI y) (nI f) m (rcode r) (nI (i + 1)) = some (rcode (rl E M (a / 6) (a % 6) y f n)) := fun r hr => by rw [← hr]; exact ih (i + 1) (by omega) (by omega)
      have no : ¬ mt E M (a / 6) (a % 6) y f i = true → fX12_whyOf_L7 F S (nI t) (nI a) (nI y) (nI f) m (rcode (rl E M (a / 6) (a % 6) y f i)) (nI (i + 1)) = some (rcode (rl E M (a / 6) (a % 6) y f n)) := fun hm => ihs _ (by rw [rl, if_neg hm])
      by_cases eb : E 0 i = 119
      · have eb2 : nI (E 0 i) = (119 : Int32) := by rw [eb]; rfl
        rw [if_pos eb2]
        exact no (fun z => ((mt_iff _ _ _ _ _ _ _).mp z).1.1 eb)
      · have eb2 : ¬ nI (E 0 i) = (119 : Int32) := c_ne (b := 119) eb (by omega) (by decide)
        have x2 : E 2 i < 6 ∧ E 3 i ≤ 200 ∧ E 4 i ≤ 200 := by rcases x with x | x <;> omega
        rw [if_neg eb2]
        by_cases c1 : E 2 i = a % 6
        · rw [if_pos (show nI (E 2 i) = nI (a % 6) by rw [c1]), in_n S (show y < 2147483648 by omega) (show E 3 i < 2147483648 by omega) (show E 4 i < 2147483648 by omega), cal_s]
          by_cases c2 : E 3 i ≤ y ∧ y ≤ E 4 i
          · rw [if_pos c2, if_neg hne]
            by_cases c3 : (M (E 1 i)).testBit (a / 6) = true
            · rw [if_pos c3, if_neg hne]
              by_cases c4 : nI (E 5 i) &&& (nI f ^^^ -1) = 0
              · have hm : mt E M (a / 6) (a % 6) y f i = true := (mt_iff _ _ _ _ _ _ _).mpr ⟨⟨eb, c1, c2⟩, c3, c4⟩
                rw [if_pos c4]
                exact ihs (i + 1) (by rw [rl, if_pos hm])
              · rw [if_neg c4]; exact no (fun z => c4 ((mt_iff _ _ _ _ _ _ _).mp z).2.2)
            · rw [if_neg c3, if_pos rfl]; exact no (fun z => c3 ((mt_iff _ _ _ _ _ _ _).mp z).2.1)
          · rw [if_neg c2, if_pos rfl]; exact no (fun z => c2 ((mt_iff _ _ _ _ _ _ _).mp z).1.2.2)
        · rw [if_neg (c_ne c1 (by omega) (by omega))]; exact no (fun z => c1 ((mt_iff _ _ _ _ _ _ _).mp z).1.2.1)
theorem M_why {S : St} {t n : Nat} {E : Nat → Nat → Nat} {M : Nat → Nat} (h : IvI S t n E) (ht : t < 2) (hW : ∀ w, w < 8 → gA S 74 0 (8 * t + w) = nI (M w) ∧ M w < 64) (F a y f : Nat) (hF : 1000 ≤ F) (ha : a < 36) (hy : y ≤ 200) : fX12_whyOf F S (nI t) (nI a) (nI y) (nI f) = some (rcode (rl E M (a / 6) (a % 6) y f n)) := M_rl h ht hW F a y f ha hy F 0 (by omega) (by have := h.1; omega)
def letB (E : Nat → Nat → Nat) (r : Nat) : Bool := decide (r ≠ 0 ∧ E 0 (r - 1) = 108)
theorem C_lets {S : St} {t n : Nat} {E : Nat → Nat → Nat} {M : Nat → Nat} (h : IvI S t n E) (ht : t < 2) (hW : ∀ w, w < 8 → gA S 52 t w = nI (M w) ∧ M w < 64) (F v th y f : Nat) (hF : 1000 ≤ F) (hv : v < 6) (hth : th < 6) (hy : y ≤ 200) : fX10_lets F S t (nI v) (nI th) (nI y) (nI f) = some (if letB E (rl E M v th y f n) = true then 1 else 0) := by
  unfold fX10_lets
  rw [gd_p ht, C_ruling h ht hW F v th y f hF hv hth hy, cal_s]
  have hl := rl_le E M v th y f n
  have h34 := h.1
  generalize rl E M v th y f n = r at *
  unfold rcode letB
  by_cases e : r = 0
  · subst e
    rw [if_pos rfl, if_pos (show (-4 : Int32) < 0 by decide), if_neg (by simp)]
  · rw [if_neg e, if_neg (nI_pos (show r - 1 < 2147483648 by omega)), ix_nI (show r - 1 < 34 by omega) (by decide), gd_t, cl (by omega)]
    have q := h.2.2.2 (r - 1) (by omega)
    have hr : E 0 (r - 1) < 200 := by rcases q.2.2.2.2.2.2.2.2.2.2.2.2 with x | x <;> omega
    rw [q.1]
    by_cases c : E 0 (r - 1) = 108
    · have c2 : nI (E 0 (r - 1)) = (108 : Int32) := by rw [c]; rfl
      rw [if_pos c2, if_pos (by simp [e, c])]
    · have c2 : ¬ nI (E 0 (r - 1)) = (108 : Int32) := c_ne (b := 108) c (by omega) (by decide)
      rw [if_neg c2, if_neg (by simp [c])]
theorem M_lets {S : St} {t n : Nat} {E : Nat → Nat → Nat} {M : Nat → Nat} (h : IvI S t n E) (ht : t < 2) (hW : ∀ w, w < 8 → gA S 74 0 (8 * t + w) = nI (M w) ∧ M w < 64) (F a y f : Nat) (hF : 1000 ≤ F) (ha : a < 36) (hy : y ≤ 200) : fX12_isLet F S (nI t) (nI a) (nI y) (nI f) = some (if letB E (rl E M (a / 6) (a % 6) y f n) = true then 1 else 0) := by
  unfold fX12_isLet
  rw [M_why h ht hW F a y f hF ha hy, cal_s]
  have hl := rl_le E M (a / 6) (a % 6) y f n
  have h34 := h.1
  generalize rl E M (a / 6) (a % 6) y f n = r at *
  unfold rcode letB
  by_cases e : r = 0
  · subst e
    rw [if_pos rfl, if_pos (show (-4 : Int32) = -4 from rfl), if_neg (by simp)]
  · have n4 : ¬ nI (r - 1) = (-4 : Int32) := fun z => by
      have := congrArg Int32.toInt z
      rw [t_nI (by omega), show (-4 : Int32).toInt = -4 by decide] at this
      omega
    have e1 : (240 : Int32) * nI t + (6 : Int32) * nI (r - 1) = nI (240 * t + 6 * (r - 1)) := by rw [show (240 : Int32) * nI t = nI (240 * t) from pk_mul 240 t, show (6 : Int32) * nI (r - 1) = nI (6 * (r - 1)) from pk_mul 6 (r - 1), nI_add]
    rw [if_neg e, if_neg n4, e1, ix_nI (show 240 * t + 6 * (r - 1) < 720 by omega) (by decide), gd_t, cl (by omega)]
    have q := h.2.2.2 (r - 1) (by omega)
    have hr : E 0 (r - 1) < 200 := by rcases q.2.2.2.2.2.2.2.2.2.2.2.2 with x | x <;> omega
    rw [q.2.2.2.2.2.2.1]
    by_cases c : E 0 (r - 1) = 108
    · have c2 : nI (E 0 (r - 1)) = (108 : Int32) := by rw [c]; rfl
      rw [if_pos c2, if_pos (by simp [e, c])]
    · have c2 : ¬ nI (E 0 (r - 1)) = (108 : Int32) := c_ne (b := 108) c (by omega) (by decide)
      rw [if_neg c2, if_neg (by simp [c])]
