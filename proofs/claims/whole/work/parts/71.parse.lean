/-! PARSING: the pure text -/
def byT (n : Nat) (B : Nat → Nat) (i : Nat) : Nat := if i < n then B i else 256
def isd (x : Nat) : Prop := 48 ≤ x ∧ x ≤ 57
theorem isd_dec (x : Nat) : isd x ∨ ¬ isd x := Decidable.em (48 ≤ x ∧ x ≤ 57)
def fgN (b : Nat → Nat) (p : Nat) : Nat → Nat → Nat
  | 0, j => j
  | m + 1, j => if 48 ≤ b (p + j) ∧ b (p + j) ≤ 57 then fgN b p m (j + 1) else j
def nvl (b : Nat → Nat) (p : Nat) : Nat → Nat
  | 0 => 0
  | k + 1 => 10 * nvl b p k + b (p + k) - 48
def num (b : Nat → Nat) (p sep : Nat) : Option (Nat × Nat) := if fgN b p 3 0 ≠ 0 ∧ b (p + fgN b p 3 0) = sep then some (nvl b p (fgN b p 3 0), p + fgN b p 3 0 + 1) else none
def sepOf (c i : Nat) : Nat := if i + 1 = c then 59 else 44
def nums (b : Nat → Nat) (c : Nat) : Nat → Nat → Nat → (Nat → Nat) → Option (Nat × (Nat → Nat))
  | 0, _, p, T => some (p, T)
  | m + 1, i, p, T => match num b p (sepOf c i) with
    | none => none
    | some vq => nums b c m (i + 1) vq.2 (fun j => if j = i then vq.1 else T j)
theorem fgN_ge (b : Nat → Nat) (p : Nat) : ∀ m j, j ≤ fgN b p m j ∧ fgN b p m j ≤ j + m ∧ ∀ i, j ≤ i → i < fgN b p m j → 48 ≤ b (p + i) ∧ b (p + i) ≤ 57 := by
  intro m
  induction m with
  | zero => intro j; exact ⟨Nat.le_refl _, Nat.le_refl _, fun i a b => by unfold fgN at b; omega⟩
  | succ m ih =>
    intro j
    unfold fgN
    by_cases e : 48 ≤ b (p + j) ∧ b (p + j) ≤ 57
    · rw [if_pos e]
      obtain ⟨a1, a2, a3⟩ := ih (j + 1)
      refine ⟨by omega, by omega, fun i h1 h2 => ?_⟩
      by_cases ei : i = j
      · rw [ei]; exact e
      · exact a3 i (by omega) h2
    · rw [if_neg e]; exact ⟨by omega, by omega, fun i h1 h2 => by omega⟩
theorem nvl_lt (b : Nat → Nat) (p : Nat) : ∀ k, (∀ i, i < k → 48 ≤ b (p + i) ∧ b (p + i) ≤ 57) → nvl b p k < 10 ^ k := by
  intro k
  induction k with
  | zero => intro _; exact Nat.one_pos
  | succ k ih =>
    intro h
    have a := ih (fun i hi => h i (by omega))
    have c := h k (by omega)
    unfold nvl
    rw [Nat.pow_succ]
    omega
theorem nvl_3 (b : Nat → Nat) (p : Nat) {k : Nat} (hk : k ≤ 4) (h : ∀ i, i < k → 48 ≤ b (p + i) ∧ b (p + i) ≤ 57) : nvl b p k < 10000 := by
  have := nvl_lt b p k h
  have h2 : 10 ^ k ≤ 10 ^ 4 := Nat.pow_le_pow_right (by decide) hk
  omega
/-- the class's sign of a byte; the model's -/
def sg (x : Nat) : Int32 := if x < 256 then (nI x).toInt8.toInt32 else 0
def mb (x : Nat) : Int32 := if x < 256 then nI x else -1
set_option maxRecDepth 100000 in
theorem sgF : ∀ x : Fin 257, (decide (48 ≤ (sg x.val).toInt ∧ (sg x.val).toInt ≤ 57) = decide (48 ≤ x.val ∧ x.val ≤ 57)) ∧ (x.val < 128 → sg x.val = nI x.val) ∧ (decide (sg x.val = 119) = decide (x.val = 119)) ∧ (decide (sg x.val = 108) = decide (x.val = 108)) ∧ (decide (sg x.val = 98) = decide (x.val = 98)) ∧ (decide (sg x.val = 59) = decide (x.val = 59)) ∧ (decide (sg x.val = 44) = decide (x.val = 44)) := by decide +kernel
set_option maxRecDepth 100000 in
theorem mbF : ∀ x : Fin 257, (decide (48 ≤ (mb x.val).toInt ∧ (mb x.val).toInt ≤ 57) = decide (48 ≤ x.val ∧ x.val ≤ 57)) ∧ (decide (mb x.val = 119) = decide (x.val = 119)) ∧ (decide (mb x.val = 108) = decide (x.val = 108)) ∧ (decide (mb x.val = 98) = decide (x.val = 98)) ∧ (decide (mb x.val = 59) = decide (x.val = 59)) ∧ (decide (mb x.val = 44) = decide (x.val = 44)) := by decide +kernel
theorem dq {P Q : Prop} [Decidable P] [Decidable Q] (h : decide P = decide Q) : P ↔ Q := by
  by_cases p : P
  · by_cases q : Q
    · exact ⟨fun _ => q, fun _ => p⟩
    · rw [decide_eq_true p, decide_eq_false q] at h; exact absurd h (by decide)
  · by_cases q : Q
    · rw [decide_eq_false p, decide_eq_true q] at h; exact absurd h (by decide)
    · exact ⟨fun z => absurd z p, fun z => absurd z q⟩
theorem byT_le {S : St} {t n : Nat} {B : Nat → Nat} (h : IvX S t n B) (i : Nat) : byT n B i < 257 := by
  unfold byT
  by_cases e : i < n
  · rw [if_pos e]; have := (h.2.2.2 i e).2.2; omega
  · rw [if_neg e]; decide
theorem sign_s {S : St} {t n : Nat} {B : Nat → Nat} (h : IvX S t n B) (ht : t < 2) {p : Nat} (hp : p < 1000000) : fX9_signAt S t (nI p) = some (sg (byT n B p)) := by
  obtain ⟨h0, h1, h2, h3⟩ := h
  unfold fX9_signAt
  rw [gd_p ht, h1, within_s, t_nI (by omega), sub1_toInt (by omega), show (0 : Int32).toInt = 0 by decide, cal_s]
  unfold byT
  by_cases e : p < n
  · rw [if_pos (show (0 : Int) ≤ p ∧ (p : Int) ≤ (n : Int) - 1 by omega), if_neg (show ¬ (1 : Int32) = 0 by decide), ix_nI (show p < 240 by omega) (by decide), gd_t, cl (by omega), if_pos e, (h3 p e).1, sg, if_pos (h3 p e).2.2]
  · rw [if_neg (show ¬ ((0 : Int) ≤ p ∧ (p : Int) ≤ (n : Int) - 1) by omega), if_pos rfl, if_neg e]; rfl
theorem byte_s {S : St} {t n : Nat} {B : Nat → Nat} (h : IvX S t n B) (ht : t < 2) {p : Nat} (hp : p < 1000000) : fX12_byteAt S (nI t) (nI p) = some (mb (byT n B p)) := by
  obtain ⟨h0, h1, h2, h3⟩ := h
  have e2 : (240 : Int32) * nI t + nI p = nI (240 * t + p) := by rw [show (240 : Int32) * nI t = nI (240 * t) from pk_mul 240 t, nI_add]
  unfold fX12_byteAt
  rw [ix_nI (show t < 2 by omega) (by decide), gd_t, cl (by omega), h2]
  unfold byT
  by_cases e : p < n
  · rw [if_neg (c_nle e (by omega)), e2, ix_nI (show 240 * t + p < 480 by omega) (by decide), gd_t, cl (by omega), if_pos e, (h3 p e).2.1, mb, if_pos (h3 p e).2.2]
  · rw [if_pos (c_le (by omega) (by omega)), if_neg e]; rfl
theorem sg_d {x : Nat} (hx : x < 257) (S : St) : fX11_within S (sg x) 48 57 = some (if 48 ≤ x ∧ x ≤ 57 then 1 else 0) := by
  rw [within_s, show (48 : Int32).toInt = 48 by decide, show (57 : Int32).toInt = 57 by decide]
  have := dq (sgF ⟨x, hx⟩).1
  simp only at this
  by_cases e : 48 ≤ x ∧ x ≤ 57
  · rw [if_pos e, if_pos (this.mpr e)]
  · rw [if_neg e, if_neg (fun z => e (this.mp z))]
theorem mb_d {x : Nat} (hx : x < 257) (S : St) : fX12_in S (mb x).toInt64 48 57 = some (if 48 ≤ x ∧ x ≤ 57 then 1 else 0) := by
  rw [in_s, i64_toInt, show (48 : Int64).toInt = 48 by decide, show (57 : Int64).toInt = 57 by decide]
  have := dq (mbF ⟨x, hx⟩).1
  simp only at this
  by_cases e : 48 ≤ x ∧ x ≤ 57
  · rw [if_pos e, if_pos (this.mpr e)]
  · rw [if_neg e, if_neg (fun z => e (this.mp z))]
theorem C_fig {S : St} {t n : Nat} {B : Nat → Nat} (h : IvX S t n B) (ht : t < 2) (F : Nat) {p : Nat} (hp : p < 500) : ∀ m j, j ≤ 3 → 3 < j + m → fX9_figuresAt_L2 F S t (nI p) m (nI j) = some (nI (fgN (byT n B) p (3 - j) j)) := by
  intro m
  induction m with
  | zero => intro j a b; omega
  | succ m ih =>
    intro j a b
    simp only [fX9_figuresAt_L2, fX9_figuresAt_b2]
    by_cases e : j = 3
    · subst e; rw [if_pos (show (3 : Int32) ≤ nI 3 by decide)]; rfl
    · have e3 : ¬ (3 : Int32) ≤ nI j := c_nle (a := 3) (by omega) (by omega)
      rw [if_neg e3, nI_add, sign_s h ht (show p + j < 1000000 by omega), cal_s, sg_d (byT_le h _), cal_s, show 3 - j = (3 - (j + 1)) + 1 by omega, fgN]
      by_cases d : 48 ≤ byT n B (p + j) ∧ byT n B (p + j) ≤ 57
      · rw [if_pos d, if_neg (show ¬ (1 : Int32) = 0 by decide), if_pos d, nI_a1]
        exact ih (j + 1) (by omega) (by omega)
      · rw [if_neg d, if_pos rfl, if_neg d]
theorem C_figs {S : St} {t n : Nat} {B : Nat → Nat} (h : IvX S t n B) (ht : t < 2) (F : Nat) (hF : 1000 ≤ F) {p : Nat} (hp : p < 500) : fX9_figuresAt F S t (nI p) = some (nI (fgN (byT n B) p 3 0)) := by
  unfold fX9_figuresAt
  rw [gd_p ht]
  exact C_fig h ht F hp F 0 (by omega) (by omega)
theorem step10 {v x : Nat} (h : 48 ≤ x) : (10 : Int32) * nI v + nI x - 48 = nI (10 * v + x - 48) := by
  rw [show (10 : Int32) * nI v = nI (10 * v) from pk_mul 10 v, nI_add]
  exact nI_subn (a := 10 * v + x) (b := 48) (by omega)
theorem C_num {S : St} {t n : Nat} {B : Nat → Nat} (h : IvX S t n B) (ht : t < 2) (F : Nat) {p k : Nat} (hp : p < 500) (hk : k ≤ 3) (hd : ∀ i, i < k → 48 ≤ byT n B (p + i) ∧ byT n B (p + i) ≤ 57) : ∀ m j, j ≤ k → k < j + m → fX9_numberAt_L5 F S t (nI (p + k)) m (nI (nvl (byT n B) p j)) (nI (p + j)) = some (nI (nvl (byT n B) p k)) := by
  intro m
  induction m with
  | zero => intro j a b; omega
  | succ m ih =>
    intro j a b
    simp only [fX9_numberAt_L5, fX9_numberAt_b5]
    by_cases e : j = k
    · subst e; rw [if_pos (c_le (Nat.le_refl _) (by omega))]
    · have d := hd j (by omega)
      have hs : sg (byT n B (p + j)) = nI (byT n B (p + j)) := (sgF ⟨_, byT_le h (p + j)⟩).2.1 (by simp only; omega)
      rw [if_neg (c_nle (by omega) (by omega)), sign_s h ht (show p + j < 1000000 by omega), cal_s, hs, bnd_e, step10 d.1, nI_a1]
      exact ih (j + 1) (by omega) (by omega)
theorem C_nums {S : St} {t n : Nat} {B : Nat → Nat} (h : IvX S t n B) (ht : t < 2) (F : Nat) (hF : 1000 ≤ F) {p k : Nat} (hp : p < 500) (hk : k ≤ 3) (hd : ∀ i, i < k → 48 ≤ byT n B (p + i) ∧ byT n B (p + i) ≤ 57) : fX9_numberAt F S t (nI p) (nI (p + k)) = some (nI (nvl (byT n B) p k)) := by
  unfold fX9_numberAt
  rw [gd_p ht]
  exact C_num h ht F hp hk hd F 0 (by omega) (by omega)
theorem M_num {t n : Nat} {B : Nat → Nat} (ht : t < 2) (F : Nat) {p : Nat} (hp : p < 500) (x2 x3 : Int32) (k : Int32 → Int32 → St → Option (Int32 × St)) : ∀ m j S, j ≤ 4 → 4 < j + m → IvX S t n B → gI S 11 0 28 = nI (p + j) → (∀ i, i < j → 48 ≤ byT n B (p + i) ∧ byT n B (p + i) ≤ 57) → ∃ S', fX12_numbers_L13 F (nI t) x2 x3 k m (nI j) (nI (nvl (byT n B) p j)) S = k (nI (fgN (byT n B) p (4 - j) j)) (nI (nvl (byT n B) p (fgN (byT n B) p (4 - j) j))) S' ∧ gI S' 11 0 28 = nI (p + fgN (byT n B) p (4 - j) j) ∧ (∀ c n j, ¬ (c = 11 ∧ n = 0 ∧ j = 28) → gI S' c n j = gI S c n j) ∧ gA S' = gA S ∧ gC S' = gC S := by
  intro m
  induction m with
  | zero => intro j S a b; omega
  | succ m ih =>
    intro j S a b h hat hd
    simp only [fX12_numbers_L13, fX12_numbers_b13]
    rw [hat, byte_s h ht (show p + j < 1000000 by omega), cal_s, mb_d (byT_le h _), cal_s]
    by_cases e : j = 4
    · subst e
      refine ⟨S, ?_, hat, fun _ _ _ _ => rfl, rfl, rfl⟩
      by_cases d : 48 ≤ byT n B (p + 4) ∧ byT n B (p + 4) ≤ 57
      · rw [if_pos d, if_neg (show ¬ (1 : Int32) = 0 by decide), if_pos (show (4 : Int32) ≤ nI 4 by decide)]; rfl
      · rw [if_neg d, if_pos rfl]; rfl
    · have e4 : ¬ (4 : Int32) ≤ nI j := c_nle (a := 4) (by omega) (by omega)
      rw [show 4 - j = (4 - (j + 1)) + 1 by omega, fgN]
      by_cases d : 48 ≤ byT n B (p + j) ∧ byT n B (p + j) ≤ 57
      · have hs : mb (byT n B (p + j)) = nI (byT n B (p + j)) := by rw [mb, if_pos (by omega)]
        rw [if_pos d, if_neg (show ¬ (1 : Int32) = 0 by decide), if_neg e4, cal_s, hs, bnd_e, step10 d.1, bnd_e, nI_a1, nI_a1, if_pos d]
        have h' : IvX (pI S 11 0 28 (nI (p + j + 1))) t n B := h.ch (k := 99) ((Ch.rf 99 S).pI _ (Or.inr rfl)) (by omega) ht
        obtain ⟨S', r1, r2, r3, r4, r5⟩ := ih (j + 1) (pI S 11 0 28 (nI (p + j + 1))) (by omega) (by omega) h' (gI_ps _ _ _ _ _) (fun i hi => by
          by_cases ei : i = j
          · rw [ei]; exact d
          · exact hd i (by omega))
        exact ⟨S', r1, r2, fun c nn jj hc => by rw [r3 c nn jj hc, gI_pI, if_neg hc], r4, r5⟩
      · rw [if_neg d, if_pos rfl, if_neg d]
        exact ⟨S, rfl, hat, fun _ _ _ _ => rfl, rfl, rfl⟩
theorem fg34 (b : Nat → Nat) (p : Nat) : (fgN b p 4 0 = 4 ∧ fgN b p 3 0 = 3 ∧ 48 ≤ b (p + 3) ∧ b (p + 3) ≤ 57) ∨ (fgN b p 4 0 = fgN b p 3 0 ∧ fgN b p 3 0 ≤ 3) := by
  unfold fgN
  by_cases d0 : 48 ≤ b (p + 0) ∧ b (p + 0) ≤ 57
  · rw [if_pos d0, if_pos d0]
    unfold fgN
    by_cases d1 : 48 ≤ b (p + (0 + 1)) ∧ b (p + (0 + 1)) ≤ 57
    · rw [if_pos d1, if_pos d1]
      unfold fgN
      by_cases d2 : 48 ≤ b (p + (0 + 1 + 1)) ∧ b (p + (0 + 1 + 1)) ≤ 57
      · rw [if_pos d2, if_pos d2]
        unfold fgN
        by_cases d3 : 48 ≤ b (p + (0 + 1 + 1 + 1)) ∧ b (p + (0 + 1 + 1 + 1)) ≤ 57
        · rw [if_pos d3]; exact Or.inl ⟨rfl, rfl, d3⟩
        · rw [if_neg d3]; exact Or.inr ⟨rfl, by omega⟩
      · rw [if_neg d2, if_neg d2]; exact Or.inr ⟨rfl, by omega⟩
    · rw [if_neg d1, if_neg d1]; exact Or.inr ⟨rfl, by omega⟩
  · rw [if_neg d0, if_neg d0]; exact Or.inr ⟨rfl, by omega⟩
