/-! FAULT AND FORCE -/
def stp (b : Nat → Nat) : Nat → Nat
  | 0 => 0
  | i + 1 => match itm b (stp b i) with
    | some r => r.1
    | none => stp b i
def tbl (b : Nat → Nat) (i : Nat) : Nat → Nat := match itm b (stp b i) with
  | some r => r.2
  | none => fun _ => 0
def okU (b : Nat → Nat) (n k : Nat) : Prop := ∀ i, i < k → stp b i < n ∧ itm b (stp b i) ≠ none
theorem stp_s {b : Nat → Nat} {i : Nat} {r : Nat × (Nat → Nat)} (h : itm b (stp b i) = some r) : stp b (i + 1) = r.1 ∧ tbl b i = r.2 := by
  constructor
  · show (match itm b (stp b i) with | some r => r.1 | none => stp b i) = r.1
    rw [h]
  · unfold tbl; rw [h]
theorem ok_st {n : Nat} {B : Nat → Nat} {k : Nat} (h : okU (byT n B) n k) : 7 * k ≤ stp (byT n B) k ∧ stp (byT n B) k ≤ n := by
  induction k with
  | zero => exact ⟨by simp, Nat.zero_le _⟩
  | succ k ih =>
    obtain ⟨a1, a2⟩ := ih (fun i hi => h i (by omega))
    obtain ⟨c1, c2⟩ := h k (by omega)
    cases hn : itm (byT n B) (stp (byT n B) k) with
    | none => exact absurd hn c2
    | some r =>
      rw [(stp_s hn).1]
      have := itm_post c1 hn
      omega
theorem okU_ex {n : Nat} {B : Nat → Nat} : ∀ m k, okU (byT n B) n k → n < stp (byT n B) k + m → ∃ N, okU (byT n B) n N ∧ (n ≤ stp (byT n B) N ∨ (stp (byT n B) N < n ∧ itm (byT n B) (stp (byT n B) N) = none)) := by
  intro m
  induction m with
  | zero => intro k h1 h2; exact ⟨k, h1, Or.inl (by omega)⟩
  | succ m ih =>
    intro k h1 h2
    by_cases e : n ≤ stp (byT n B) k
    · exact ⟨k, h1, Or.inl e⟩
    · cases hn : itm (byT n B) (stp (byT n B) k) with
      | none => exact ⟨k, h1, Or.inr ⟨by omega, hn⟩⟩
      | some r =>
        have := itm_post (show stp (byT n B) k < n by omega) hn
        refine ih (k + 1) (fun i hi => ?_) (by rw [(stp_s hn).1]; omega)
        by_cases ei : i = k
        · subst ei; exact ⟨by omega, by rw [hn]; simp⟩
        · exact h1 i (by omega)
theorem IvX.chR {S S' : St} {t n m2 : Nat} {B : Nat → Nat} (h : IvX S t n B) (g : ChR m2 S S') : IvX S' t n B := by
  obtain ⟨h0, h1, h2, h3⟩ := h
  exact ⟨h0, (g.1 8 t 1 (fun z => absurd z.1 (by decide))).trans h1, (g.2.1 53 0 t (by decide)).trans h2, fun i hi => ⟨(g.2.1 46 t i (by decide)).trans (h3 i hi).1, (g.2.1 54 0 _ (by decide)).trans (h3 i hi).2.1, (h3 i hi).2.2⟩⟩
def endC (n s : Nat) : Int32 := if n ≤ s then -4 else nI s
theorem C_ff {t n N : Nat} {B : Nat → Nat} (ht : t < 2) (F : Nat) (hF : 1000 ≤ F) (hN : okU (byT n B) n N) (he : n ≤ stp (byT n B) N ∨ (stp (byT n B) N < n ∧ itm (byT n B) (stp (byT n B) N) = none)) : ∀ m k S, k ≤ N → N < k + m → IvX S t n B → ∃ S', ChR (68 + t) S S' ∧ fX9_firstFault_L4 F t m (nI (stp (byT n B) k)) (nI k) S = some (endC n (stp (byT n B) N), S') := by
  have hNs := ok_st hN
  intro m
  induction m with
  | zero => intro k S a b; omega
  | succ m ih =>
    intro k S a b h
    have h240 := h.1
    have hk := ok_st (n := n) (B := B) (k := k) (fun i hi => hN i (by omega))
    simp only [fX9_firstFault_L4, fX9_firstFault_b4]
    have e240 : ¬ (240 : Int32) ≤ nI k := c_nle (a := 240) (by omega) (by omega)
    rw [if_neg e240, h.2.1]
    by_cases e : k = N
    · subst e
      unfold endC
      rcases he with he | ⟨he1, he2⟩
      · rw [if_pos (c_le he (by omega)), if_pos he]
        exact ⟨S, ChR.rf _ _, rfl⟩
      · rw [if_neg (c_nle he1 (by omega)), if_neg (by omega)]
        obtain ⟨S', o, r⟩ := C_read h ht (show 68 + t < 70 by omega) F hF he1
        rcases r with ⟨-, rr⟩ | ⟨r, rn, -⟩
        · refine ⟨S', o, ?_⟩
          rw [rr, cal_s, if_neg (show ¬ (0 : Int32) ≤ -1 by decide)]
        · rw [he2] at rn; exact absurd rn (by simp)
    · obtain ⟨c1, c2⟩ := hN k (by omega)
      rw [if_neg (c_nle c1 (by omega))]
      obtain ⟨S1, o, r⟩ := C_read h ht (show 68 + t < 70 by omega) F hF c1
      rcases r with ⟨rn, -⟩ | ⟨r, rn, rr, -⟩
      · exact absurd rn c2
      · have hr := itm_post c1 rn
        have z : (0 : Int32) ≤ nI r.1 := c_le (a := 0) (by omega) (by omega)
        obtain ⟨S', o', r'⟩ := ih (k + 1) S1 (by omega) (by omega) (h.chR o)
        refine ⟨S', o.tr o', ?_⟩
        rw [rr, cal_s, if_pos z, nI_a1, ← (stp_s rn).1]
        exact r'
theorem C_fault {S : St} {t n N : Nat} {B : Nat → Nat} (ht : t < 2) (F : Nat) (hF : 1000 ≤ F) (hN : okU (byT n B) n N) (he : n ≤ stp (byT n B) N ∨ (stp (byT n B) N < n ∧ itm (byT n B) (stp (byT n B) N) = none)) (h : IvX S t n B) : ∃ S', ChR (68 + t) S S' ∧ fX9_firstFault F S t = some (endC n (stp (byT n B) N), S') := by
  have hs := ok_st hN
  have := h.1
  unfold fX9_firstFault
  rw [gd_p ht]
  exact C_ff ht F hF hN he F 0 S (by omega) (by omega) h
/-- items and their number, of one tongue, change -/
def ChE (t : Nat) (S S' : St) : Prop := (∀ c n j, ¬ (c = 3 ∧ 34 * t ≤ n ∧ n < 34 * t + 34) → ¬ (c = 9 ∧ n = t ∧ j = 6) → gI S' c n j = gI S c n j) ∧ (∀ c n j, c ≠ 47 → gA S' c n j = gA S c n j) ∧ gC S' = gC S
theorem ChE.rf (t : Nat) (S : St) : ChE t S S := ⟨fun _ _ _ _ _ => rfl, fun _ _ _ _ => rfl, rfl⟩
theorem ChE.tr {t : Nat} {S S1 S2 : St} (h : ChE t S S1) (g : ChE t S1 S2) : ChE t S S2 := ⟨fun c n j a b => (g.1 c n j a b).trans (h.1 c n j a b), fun c n j hc => (g.2.1 c n j hc).trans (h.2.1 c n j hc), g.2.2.trans h.2.2⟩
theorem C_en {t n N : Nat} {B : Nat → Nat} (ht : t < 2) (F : Nat) (hF : 1000 ≤ F) (hN : okU (byT n B) n N) (he : n ≤ stp (byT n B) N) : ∀ m k S, k ≤ N → N < k + m → IvX S t n B → gI S 9 t 6 = nI k → (∀ i, i < k → HasI S (34 * t + i) (byT n B (stp (byT n B) i)) (tbl (byT n B) i)) → ∃ S', ChE t S S' ∧ fX10_enact_L22 F t m (nI (stp (byT n B) k)) S = some (nI N, S') ∧ gI S' 9 t 6 = nI N ∧ ∀ i, i < N → HasI S' (34 * t + i) (byT n B (stp (byT n B) i)) (tbl (byT n B) i) := by
  have hNs := ok_st hN
  intro m
  induction m with
  | zero => intro k S a b; omega
  | succ m ih =>
    intro k S a b h hk hi
    have h240 := h.1
    simp only [fX10_enact_L22, fX10_enact_b22]
    rw [hk, h.2.1]
    by_cases e : k = N
    · subst e
      refine ⟨S, ChE.rf _ _, ?_, hk, hi⟩
      rw [if_pos (c_le he (by omega))]
      exact ite_self _
    · obtain ⟨c1, c2⟩ := hN k (by omega)
      have e34 : ¬ (34 : Int32) ≤ nI k := c_nle (a := 34) (by omega) (by omega)
      rw [if_neg e34, if_neg (c_nle c1 (by omega)), ix_nI (show k < 34 by omega) (by decide), gd_t, cl (by omega)]
      obtain ⟨S1, o, r⟩ := C_read h ht (show 34 * t + k < 70 by omega) F hF c1
      rcases r with ⟨rn, -⟩ | ⟨r, rn, rr, rh⟩
      · exact absurd rn c2
      · have hk1 : gI S1 9 t 6 = nI k := (o.1 9 t 6 (fun z => absurd z.1 (by decide))).trans hk
        have o1 : ChE t S (pI S1 9 t 6 (nI (k + 1))) := ⟨fun c nn j x y => by rw [gI_pI, if_neg y]; exact o.1 c nn j (fun z => x ⟨z.1, by omega, by omega⟩), o.2.1, o.2.2⟩
        have h1 : IvX (pI S1 9 t 6 (nI (k + 1))) t n B := (h.chR o).ch (k := 12 + t) (Ch.pI (k := 12 + t) (Ch.rf _ S1) (c := 9) (n := t) (j := 6) _ (Or.inl rfl)) (by omega) ht
        have hh : ∀ {X : St} {mm l : Nat} {T : Nat → Nat} (v : Int32), HasI X mm l T → HasI (pI X 9 t 6 v) mm l T := fun v q => by
          unfold HasI at *
          rw [gI_pc _ _ _ _ _ _ (show 3 ≠ 9 by decide), gI_pc _ _ _ _ _ _ (show 3 ≠ 9 by decide), gI_pc _ _ _ _ _ _ (show 3 ≠ 9 by decide), gI_pc _ _ _ _ _ _ (show 3 ≠ 9 by decide), gI_pc _ _ _ _ _ _ (show 3 ≠ 9 by decide), gI_pc _ _ _ _ _ _ (show 3 ≠ 9 by decide)]
          exact q
        obtain ⟨S', o', r1, r2, r3⟩ := ih (k + 1) (pI S1 9 t 6 (nI (k + 1))) (by omega) (by omega) h1 (gI_ps _ _ _ _ _) (fun i hik => by
          apply hh
          by_cases ei : i = k
          · subst ei; rw [(stp_s rn).2]; exact rh
          · have q := hi i (by omega)
            unfold HasI at *
            rw [o.1 3 _ 0 (fun z => by omega), o.1 3 _ 1 (fun z => by omega), o.1 3 _ 2 (fun z => by omega), o.1 3 _ 3 (fun z => by omega), o.1 3 _ 4 (fun z => by omega), o.1 3 _ 5 (fun z => by omega)]
            exact q)
        refine ⟨S', o1.tr o', ?_, r2, r3⟩
        rw [rr, cal_s, bnd_e, hk1, nI_a1, ← (stp_s rn).1]
        exact r1
theorem C_enact {S : St} {t n N : Nat} {B : Nat → Nat} (ht : t < 2) (F : Nat) (hF : 1000 ≤ F) (hN : okU (byT n B) n N) (he : n ≤ stp (byT n B) N ∨ (stp (byT n B) N < n ∧ itm (byT n B) (stp (byT n B) N) = none)) (h : IvX S t n B) : (n ≤ stp (byT n B) N ∧ ∃ S' S1, ChR (68 + t) S S1 ∧ ChE t S1 S' ∧ fX10_enact F S t = some (nI N, S') ∧ gI S' 9 t 6 = nI N ∧ ∀ i, i < N → HasI S' (34 * t + i) (byT n B (stp (byT n B) i)) (tbl (byT n B) i)) ∨ (stp (byT n B) N < n ∧ ∃ S', ChR (68 + t) S S' ∧ fX10_enact F S t = some (-2, S')) := by
  have hs := ok_st hN
  have h240 := h.1
  obtain ⟨S1, o, r⟩ := C_fault ht F hF hN he h
  by_cases e : n ≤ stp (byT n B) N
  · left
    refine ⟨e, ?_⟩
    have h1 : IvX (pI S1 9 t 6 (nI 0)) t n B := (h.chR o).ch (k := 12 + t) (Ch.pI (k := 12 + t) (Ch.rf _ S1) (c := 9) (n := t) (j := 6) _ (Or.inl rfl)) (by omega) ht
    have o1 : ChE t S1 (pI S1 9 t 6 (nI 0)) := ⟨fun c nn j x y => by rw [gI_pI, if_neg y], fun _ _ _ _ => rfl, rfl⟩
    obtain ⟨S', o', r1, r2, r3⟩ := C_en ht F hF hN e F 0 (pI S1 9 t 6 (nI 0)) (by omega) (by omega) h1 (gI_ps _ _ _ _ _) (fun i hi => by omega)
    refine ⟨S', S1, o, o1.tr o', ?_, r2, r3⟩
    unfold fX10_enact
    rw [gd_p ht, r, cal_s, endC, if_pos e, if_pos rfl, bnd_e]
    exact r1
  · right
    refine ⟨by omega, S1, o, ?_⟩
    unfold fX10_enact
    rw [gd_p ht, r, cal_s, endC, if_neg e, if_neg (ne4 (by omega))]
/-- the model's scratch of reading: at, told, the third list -/
def OffN (S S' : St) : Prop := (∀ c n j, ¬ (c = 11 ∧ n = 0 ∧ j = 28) → gI S' c n j = gI S c n j) ∧ (∀ c n j, c ≠ 73 → ¬ (c = 55 ∧ n = 0 ∧ j = 2) → ¬ (c = 56 ∧ n = 0 ∧ 480 ≤ j) → gA S' c n j = gA S c n j) ∧ gC S' = gC S
theorem OffN.rf (S : St) : OffN S S := ⟨fun _ _ _ _ => rfl, fun _ _ _ _ _ _ => rfl, rfl⟩
theorem OffN.tr {S S1 S2 : St} (h : OffN S S1) (g : OffN S1 S2) : OffN S S2 := ⟨fun c n j a => (g.1 c n j a).trans (h.1 c n j a), fun c n j a b d => (g.2.1 c n j a b d).trans (h.2.1 c n j a b d), g.2.2.trans h.2.2⟩
theorem OffN.of {S S1 : St} (h : OffM S S1) : OffN S S1 := ⟨h.1, fun c n j a _ _ => h.2.1 c n j a, h.2.2⟩
theorem OffN.p5 {S S1 : St} (h : OffN S S1) (v : Int32) : OffN S (pA S1 55 0 2 v) := ⟨h.1, fun c n j a b d => by rw [gA_pA, if_neg b]; exact h.2.1 c n j a b d, h.2.2⟩
theorem OffN.p6 {S S1 : St} (h : OffN S S1) {i : Nat} (hi : 480 ≤ i) (v : Int32) : OffN S (pA S1 56 0 i v) := ⟨h.1, fun c n j a b d => by rw [gA_pA, if_neg (fun z => d ⟨z.1, z.2.1, by omega⟩)]; exact h.2.1 c n j a b d, h.2.2⟩
theorem OffN.ch {S S' : St} (h : OffN S S') : Ch 99 S S' := by
  refine ⟨fun c n j a b => h.1 c n j (fun e => ?_), fun c n j a _ => h.2.1 c n j (fun e => ?_) (fun e => ?_) (fun e => ?_)⟩
  · obtain ⟨rfl, rfl, rfl⟩ := e; exact a rfl
  · subst e; exact a rfl
  · obtain ⟨rfl, rfl, rfl⟩ := e; exact a rfl
  · obtain ⟨rfl, rfl, q⟩ := e
    exact a (by simp [ownA, show ¬ j < 480 by omega])
theorem IvX.offN {S S' : St} {t n : Nat} {B : Nat → Nat} (h : IvX S t n B) (g : OffN S S') (ht : t < 2) : IvX S' t n B := h.ch g.ch (by omega) ht
def tabE (b : Nat → Nat) : Nat → Nat → Nat := fun j i => if j = 0 then b (stp b i) else tbl b i (j - 1)
theorem M_cp (F : Nat) (x1 : Int32) {a : Nat} (ha : 480 ≤ a) (ha2 : a + 6 ≤ 720) (T : Nat → Nat) (k : St → Option (Int32 × St)) : ∀ m j S, j ≤ 5 → 5 < j + m → (∀ i, i < 5 → gA S 73 0 i = nI (T i)) → (∀ i, i < j → gA S 56 0 (a + 1 + i) = nI (T i)) → ∃ S', fX12_readAll_L69 F x1 (nI a) k m (nI j) S = k S' ∧ OffN S S' ∧ gI S' = gI S ∧ (∀ i, i < 5 → gA S' 56 0 (a + 1 + i) = nI (T i)) ∧ (∀ i, i ≤ a → gA S' 56 0 i = gA S 56 0 i) ∧ gA S' 55 0 2 = gA S 55 0 2 := by
  intro m
  induction m with
  | zero => intro j S q1 q2; omega
  | succ m ih =>
    intro j S q1 q2 h3 h6
    simp only [fX12_readAll_L69, fX12_readAll_b69]
    by_cases e : j = 5
    · subst e
      rw [if_pos (show (5 : Int32) ≤ nI 5 by decide)]
      exact ⟨S, rfl, OffN.rf _, rfl, h6, fun _ _ => rfl, rfl⟩
    · have e5 : ¬ (5 : Int32) ≤ nI j := c_nle (a := 5) (by omega) (by omega)
      rw [if_neg e5, ix_nI (show j < 5 by omega) (by decide), gd_t, nI_a1, nI_add, ix_nI (show a + 1 + j < 720 by omega) (by decide), gd_t, cl (show a + 1 + j < 2147483648 by omega), cl (show j < 2147483648 by omega), bnd_e, h3 j (by omega), nI_a1]
      obtain ⟨S', r1, r2, r3, r4, r5, r6⟩ := ih (j + 1) (pA S 56 0 (a + 1 + j) (nI (T j))) (by omega) (by omega) (fun i hi => by rw [gA_pc _ _ _ _ _ _ (show 73 ≠ 56 by decide)]; exact h3 i hi) (fun i hi => by
        by_cases ei : i = j
        · subst ei; rw [gA_ps]
        · rw [gA_pi _ _ _ _ _ _ (show a + 1 + i ≠ a + 1 + j by omega)]; exact h6 i (by omega))
      exact ⟨S', r1, ((OffN.rf S).p6 (by omega) _).tr r2, r3, r4, fun i hi => by rw [r5 i hi, gA_pi _ _ _ _ _ _ (show i ≠ a + 1 + j by omega)], by rw [r6, gA_pc _ _ _ _ _ _ (show 55 ≠ 56 by decide)]⟩
