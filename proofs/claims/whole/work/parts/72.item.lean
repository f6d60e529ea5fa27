/-! ONE ITEM READ -/
theorem own47 (n j : Nat) : ownA 47 n j = 99 := rfl
theorem IvX.off {k : Nat} {S S' : St} {t n : Nat} {B : Nat → Nat} (h : IvX S t n B) (g : OffK k S S') (hk : ∀ n j, ownA k n j = 99) (ht : t < 2) : IvX S' t n B := h.ch (g.ch hk) (by omega) ht
theorem byT_out {n : Nat} {B : Nat → Nat} {i : Nat} (h : ¬ i < n) : byT n B i = 256 := by unfold byT; rw [if_neg h]
theorem num_q {n : Nat} {B : Nat → Nat} {p sep v q : Nat} (hs : sep < 256) (h : num (byT n B) p sep = some (v, q)) : p + 2 ≤ q ∧ q ≤ n ∧ v < 1000 ∧ q = p + fgN (byT n B) p 3 0 + 1 ∧ v = nvl (byT n B) p (fgN (byT n B) p 3 0) := by
  unfold num at h
  by_cases e : fgN (byT n B) p 3 0 ≠ 0 ∧ byT n B (p + fgN (byT n B) p 3 0) = sep
  · rw [if_pos e] at h
    have h1 := Option.some.inj h
    have hv : nvl (byT n B) p (fgN (byT n B) p 3 0) = v := congrArg Prod.fst h1
    have hq : p + fgN (byT n B) p 3 0 + 1 = q := congrArg Prod.snd h1
    obtain ⟨g1, g2, g3⟩ := fgN_ge (byT n B) p 3 0
    have hin : p + fgN (byT n B) p 3 0 < n := by
      apply Decidable.byContradiction
      intro c
      have : byT n B (p + fgN (byT n B) p 3 0) = 256 := byT_out c
      omega
    have hl := nvl_lt (byT n B) p (fgN (byT n B) p 3 0) (fun i hi => g3 i (by omega) hi)
    have h10 : 10 ^ fgN (byT n B) p 3 0 ≤ 10 ^ 3 := Nat.pow_le_pow_right (by decide) (by omega)
    refine ⟨by omega, by omega, by omega, hq.symm, hv.symm⟩
  · rw [if_neg e] at h; exact absurd h (by simp)
theorem sep_lt (c i : Nat) : sepOf c i < 256 := by unfold sepOf; split <;> decide
theorem nums_post {n : Nat} {B : Nat → Nat} {c : Nat} : ∀ m i p T r, nums (byT n B) c m i p T = some r → p ≤ n → p + 2 * m ≤ r.1 ∧ r.1 ≤ n ∧ (∀ j, i + m ≤ j → r.2 j = T j) ∧ (∀ j, j < i → r.2 j = T j) ∧ ∀ j, i ≤ j → j < i + m → r.2 j < 1000 := by
  intro m
  induction m with
  | zero =>
    intro i p T r h hp
    unfold nums at h
    have := Option.some.inj h
    subst this
    exact ⟨by simp, hp, fun _ _ => rfl, fun _ _ => rfl, fun j a b => by omega⟩
  | succ m ih =>
    intro i p T r h hp
    unfold nums at h
    cases hn : num (byT n B) p (sepOf c i) with
    | none => rw [hn] at h; exact absurd h (by simp)
    | some vq =>
      rw [hn] at h
      obtain ⟨v, q⟩ := vq
      obtain ⟨a1, a2, a3, -, -⟩ := num_q (sep_lt c i) hn
      obtain ⟨b1, b2, b3, b4, b5⟩ := ih (i + 1) q _ r h a2
      refine ⟨by omega, b2, fun j hj => ?_, fun j hj => ?_, fun j h1 h2 => ?_⟩
      · rw [b3 j (by omega)]; simp only; rw [if_neg (by omega)]
      · rw [b4 j (by omega)]; simp only; rw [if_neg (by omega)]
      · by_cases ej : j = i
        · rw [b4 j (by omega)]; simp only; rw [if_pos ej]; exact a3
        · exact b5 j (by omega) (by omega)
theorem sep_eq {x : Nat} (hx : x < 257) (c i : Nat) : (sg x = nI (sepOf c i) ↔ x = sepOf c i) ∧ (mb x = nI (sepOf c i) ↔ x = sepOf c i) := by
  unfold sepOf
  by_cases e : i + 1 = c
  · rw [if_pos e]; exact ⟨dq (sgF ⟨x, hx⟩).2.2.2.2.2.1, dq (mbF ⟨x, hx⟩).2.2.2.2.1⟩
  · rw [if_neg e]; exact ⟨dq (sgF ⟨x, hx⟩).2.2.2.2.2.2, dq (mbF ⟨x, hx⟩).2.2.2.2.2⟩
theorem C_nums2 {t n : Nat} {B : Nat → Nat} (ht : t < 2) (F : Nat) (hF : 1000 ≤ F) (m2 : Nat) (x3 : Int32) {c : Nat} (hc : c ≤ 5) (k : Int32 → St → Option (Int32 × St)) : ∀ m i p T S, i ≤ c → c < i + m → IvX S t n B → p ≤ n → (∀ j, j < i → gA S 47 t j = nI (T j)) → ∃ S', OffK 47 S S' ∧ ((nums (byT n B) c (c - i) i p T = none ∧ fX9_read_L43 F t m2 x3 (nI c) k m (nI p) (nI i) S = some (-1, S')) ∨ ∃ r, nums (byT n B) c (c - i) i p T = some r ∧ fX9_read_L43 F t m2 x3 (nI c) k m (nI p) (nI i) S = k (nI r.1) S' ∧ ∀ j, j < c → gA S' 47 t j = nI (r.2 j)) := by
  intro m
  induction m with
  | zero => intro i p T S a b; omega
  | succ m ih =>
    intro i p T S a b h hp hT
    simp only [fX9_read_L43, fX9_read_b43]
    by_cases e : i = c
    · subst e
      refine ⟨S, OffK.rf _ _, Or.inr ⟨(p, T), ?_, ?_, hT⟩⟩
      · rw [Nat.sub_self]; rfl
      · rw [if_pos (c_le (Nat.le_refl _) (by omega))]
    · have h240 := h.1
      have hg := fgN_ge (byT n B) p 3 0
      have ec : nI c - 1 = nI (c - 1) := nI_subn (a := c) (b := 1) (by omega)
      rw [if_neg (c_nle (by omega) (by omega)), C_figs h ht F hF (show p < 500 by omega), cal_s, bnd_e, nI_add, ec]
      have hsep : (if nI i = nI (c - 1) then fX9_read_j77 F S t m2 x3 (nI c) (nI p) (nI i) (nI (p + fgN (byT n B) p 3 0)) 59 (fX9_read_L43 F t m2 x3 (nI c) k m) else fX9_read_j77 F S t m2 x3 (nI c) (nI p) (nI i) (nI (p + fgN (byT n B) p 3 0)) 44 (fX9_read_L43 F t m2 x3 (nI c) k m)) = fX9_read_j77 F S t m2 x3 (nI c) (nI p) (nI i) (nI (p + fgN (byT n B) p 3 0)) (nI (sepOf c i)) (fX9_read_L43 F t m2 x3 (nI c) k m) := by
        unfold sepOf
        by_cases e1 : i + 1 = c
        · rw [if_pos e1, if_pos (show nI i = nI (c - 1) by rw [show c - 1 = i by omega])]; rfl
        · rw [if_neg e1, if_neg (c_ne (show i ≠ c - 1 by omega) (by omega) (by omega))]; rfl
      rw [hsep]
      unfold fX9_read_j77
      rw [show c - i = (c - (i + 1)) + 1 by omega, nums]
      by_cases e0 : fgN (byT n B) p 3 0 = 0
      · refine ⟨S, OffK.rf _ _, Or.inl ⟨?_, ?_⟩⟩
        · rw [num, if_neg (fun z => z.1 e0)]
        · rw [if_pos (by rw [e0]; rfl)]
      · rw [if_neg (c_ne (show p + fgN (byT n B) p 3 0 ≠ p by omega) (by omega) (by omega)), sign_s h ht (by omega), cal_s]
        by_cases es : byT n B (p + fgN (byT n B) p 3 0) = sepOf c i
        · have hn : num (byT n B) p (sepOf c i) = some (nvl (byT n B) p (fgN (byT n B) p 3 0), p + fgN (byT n B) p 3 0 + 1) := by rw [num, if_pos ⟨e0, es⟩]
          have hq := num_q (sep_lt c i) hn
          rw [if_pos ((sep_eq (byT_le h _) c i).1.mpr es), C_nums h ht F hF (by omega) (by omega) (fun j hj => hg.2.2 j (by omega) hj), cal_s, ix_nI (show i < 5 by omega) (by decide), gd_t, cl (by omega), bnd_e, bnd_e, nI_a1, nI_a1, hn]
          have o1 : OffK 47 S (pA S 47 t i (nI (nvl (byT n B) p (fgN (byT n B) p 3 0)))) := (OffK.rf 47 S).pA t i _
          obtain ⟨S', o, r⟩ := ih (i + 1) (p + fgN (byT n B) p 3 0 + 1) (fun j => if j = i then nvl (byT n B) p (fgN (byT n B) p 3 0) else T j) _ (by omega) (by omega) (h.off o1 own47 ht) hq.2.1 (fun j hj => by
            by_cases ej : j = i
            · subst ej; rw [gA_ps]; simp only [if_true]
            · rw [gA_pi _ _ _ _ _ _ ej, if_neg ej]; exact hT j (by omega))
          exact ⟨S', o1.tr o, r⟩
        · refine ⟨S, OffK.rf _ _, Or.inl ⟨?_, ?_⟩⟩
          · rw [num, if_neg (fun z => es z.2)]
          · rw [if_neg (fun z => es ((sep_eq (byT_le h _) c i).1.mp z))]
def OffM (S S' : St) : Prop := (∀ c n j, ¬ (c = 11 ∧ n = 0 ∧ j = 28) → gI S' c n j = gI S c n j) ∧ (∀ c n j, c ≠ 73 → gA S' c n j = gA S c n j) ∧ gC S' = gC S
theorem OffM.rf (S : St) : OffM S S := ⟨fun _ _ _ _ => rfl, fun _ _ _ _ => rfl, rfl⟩
theorem OffM.tr {S S1 S2 : St} (h : OffM S S1) (g : OffM S1 S2) : OffM S S2 := ⟨fun c n j hc => (g.1 c n j hc).trans (h.1 c n j hc), fun c n j hc => (g.2.1 c n j hc).trans (h.2.1 c n j hc), g.2.2.trans h.2.2⟩
theorem OffM.pA {S S1 : St} (h : OffM S S1) (n j : Nat) (v : Int32) : OffM S (pA S1 73 n j v) := ⟨h.1, fun c n' j' hc => by rw [gA_pc _ _ _ _ _ _ hc]; exact h.2.1 c n' j' hc, h.2.2⟩
theorem OffM.pI {S S1 : St} (h : OffM S S1) (v : Int32) : OffM S (pI S1 11 0 28 v) := ⟨fun c n' j' hc => by rw [gI_pI, if_neg hc]; exact h.1 c n' j' hc, h.2.1, h.2.2⟩
theorem OffM.ch {S S' : St} (h : OffM S S') : Ch 99 S S' := by
  refine ⟨fun c n j a b => h.1 c n j (fun e => ?_), fun c n j a _ => h.2.1 c n j (fun e => ?_)⟩
  · obtain ⟨rfl, rfl, rfl⟩ := e; exact a rfl
  · subst e; exact a rfl
theorem IvX.offM {S S' : St} {t n : Nat} {B : Nat → Nat} (h : IvX S t n B) (g : OffM S S') (ht : t < 2) : IvX S' t n B := h.ch g.ch (by omega) ht
theorem M_nums {t n : Nat} {B : Nat → Nat} (ht : t < 2) (F : Nat) (hF : 1000 ≤ F) {c : Nat} (hc : c ≤ 5) : ∀ m i p T S, i ≤ c → c < i + m → IvX S t n B → p ≤ n → gI S 11 0 28 = nI p → (∀ j, j < i → gA S 73 0 j = nI (T j)) → ∃ S', OffM S S' ∧ ((nums (byT n B) c (c - i) i p T = none ∧ fX12_numbers_L2 F (nI t) (nI c) m (nI i) S = some (0, S')) ∨ ∃ r, nums (byT n B) c (c - i) i p T = some r ∧ fX12_numbers_L2 F (nI t) (nI c) m (nI i) S = some (1, S') ∧ gI S' 11 0 28 = nI r.1 ∧ ∀ j, j < c → gA S' 73 0 j = nI (r.2 j)) := by
  have hne : ¬ (1 : Int32) = 0 := by decide
  intro m
  induction m with
  | zero => intro i p T S a b; omega
  | succ m ih =>
    intro i p T S a b h hp hat hT
    simp only [fX12_numbers_L2, fX12_numbers_b2]
    by_cases e : i = c
    · subst e
      refine ⟨S, OffM.rf _, Or.inr ⟨(p, T), ?_, ?_, hat, hT⟩⟩
      · rw [Nat.sub_self]; rfl
      · rw [if_pos (c_le (Nat.le_refl _) (by omega))]
    · have h240 := h.1
      have hg := fgN_ge (byT n B) p 3 0
      have hg4 := fgN_ge (byT n B) p 4 0
      have ec : nI c - 1 = nI (c - 1) := nI_subn (a := c) (b := 1) (by omega)
      rw [if_neg (c_nle (by omega) (by omega))]
      obtain ⟨S1, r1, r2, r3, r4, r5⟩ := M_num (n := n) (B := B) ht F (show p < 500 by omega) (nI c) (nI i) (fun x4_7 x5_8 S_6 => fX12_numbers_j77 F S_6 (nI t) (nI c) (nI i) x4_7 x5_8 (fX12_numbers_L2 F (nI t) (nI c) m)) F 0 S (by omega) (by omega) h hat (fun j hj => by omega)
      have o1 : OffM S S1 := ⟨r3, fun cc nn j _ => by rw [r4], r5⟩
      have h1 : IvX S1 t n B := h.offM o1 ht
      rw [show (4 : Nat) - 0 = 4 from rfl] at r1 r2
      have goal2 : ∀ X, fX12_numbers_j77 F S1 (nI t) (nI c) (nI i) (nI (fgN (byT n B) p 4 0)) (nI (nvl (byT n B) p (fgN (byT n B) p 4 0))) (fX12_numbers_L2 F (nI t) (nI c) m) = X → fX12_numbers_L13 F (nI t) (nI c) (nI i) (fun x4_7 x5_8 S_6 => fX12_numbers_j77 F S_6 (nI t) (nI c) (nI i) x4_7 x5_8 (fX12_numbers_L2 F (nI t) (nI c) m)) F 0 0 S = X := fun X hX => Eq.trans r1 hX
      have in13 : fX12_in S1 (nI (fgN (byT n B) p 4 0)).toInt64 1 3 = some (if 1 ≤ fgN (byT n B) p 4 0 ∧ fgN (byT n B) p 4 0 ≤ 3 then 1 else 0) := in_n S1 (a := fgN (byT n B) p 4 0) (b := 1) (c := 3) (by omega) (by decide) (by decide)
      rw [show c - i = (c - (i + 1)) + 1 by omega, nums]
      by_cases e0 : 1 ≤ fgN (byT n B) p 4 0 ∧ fgN (byT n B) p 4 0 ≤ 3
      · have e43 : fgN (byT n B) p 4 0 = fgN (byT n B) p 3 0 := by rcases fg34 (byT n B) p with x | x <;> omega
        rw [if_pos e0] at in13
        rw [e43] at in13 r2 goal2 e0
        have hsep : ∀ b10 : Int32, (if nI c - 1 ≤ nI i then fX12_numbers_j113 F S1 (nI t) (nI c) (nI i) (nI (nvl (byT n B) p (fgN (byT n B) p 3 0))) 59 b10 (fX12_numbers_L2 F (nI t) (nI c) m) else fX12_numbers_j113 F S1 (nI t) (nI c) (nI i) (nI (nvl (byT n B) p (fgN (byT n B) p 3 0))) 44 b10 (fX12_numbers_L2 F (nI t) (nI c) m)) = fX12_numbers_j113 F S1 (nI t) (nI c) (nI i) (nI (nvl (byT n B) p (fgN (byT n B) p 3 0))) (nI (sepOf c i)) b10 (fX12_numbers_L2 F (nI t) (nI c) m) := by
          intro b10
          unfold sepOf
          rw [ec]
          by_cases e1 : i + 1 = c
          · rw [if_pos e1, if_pos (c_le (by omega) (by omega))]; rfl
          · rw [if_neg e1, if_neg (c_nle (by omega) (by omega))]; rfl
        by_cases es : byT n B (p + fgN (byT n B) p 3 0) = sepOf c i
        · have hn : num (byT n B) p (sepOf c i) = some (nvl (byT n B) p (fgN (byT n B) p 3 0), p + fgN (byT n B) p 3 0 + 1) := by rw [num, if_pos ⟨by omega, es⟩]
          have hq := num_q (sep_lt c i) hn
          rw [hn]
          have o2 : OffM S (pI (pA S1 73 0 i (nI (nvl (byT n B) p (fgN (byT n B) p 3 0)))) 11 0 28 (nI (p + fgN (byT n B) p 3 0 + 1))) := (o1.pA 0 i _).pI _
          obtain ⟨S', o, r⟩ := ih (i + 1) (p + fgN (byT n B) p 3 0 + 1) (fun j => if j = i then nvl (byT n B) p (fgN (byT n B) p 3 0) else T j) _ (by omega) (by omega) (h.offM o2 ht) hq.2.1 (gI_ps _ _ _ _ _) (fun j hj => by
            rw [gA_pI]
            by_cases ej : j = i
            · subst ej; rw [gA_ps]; simp only [if_true]
            · rw [gA_pi _ _ _ _ _ _ ej, r4, if_neg ej]; exact hT j (by omega))
          refine ⟨S', o2.tr o, ?_⟩
          have st : fX12_numbers_L13 F (nI t) (nI c) (nI i) (fun x4_7 x5_8 S_6 => fX12_numbers_j77 F S_6 (nI t) (nI c) (nI i) x4_7 x5_8 (fX12_numbers_L2 F (nI t) (nI c) m)) F 0 0 S = fX12_numbers_L2 F (nI t) (nI c) m (nI (i + 1)) (pI (pA S1 73 0 i (nI (nvl (byT n B) p (fgN (byT n B) p 3 0)))) 11 0 28 (nI (p + fgN (byT n B) p 3 0 + 1))) := by
            apply goal2
            unfold fX12_numbers_j77
            rw [in13, cal_s, if_neg hne, r2, byte_s h1 ht (by omega), cal_s, hsep]
            unfold fX12_numbers_j113
            rw [if_pos ((sep_eq (byT_le h _) c i).2.mpr es), ix_nI (show i < 5 by omega) (by decide), gd_t, cl (by omega), bnd_e, gI_pA, r2, bnd_e, nI_a1, nI_a1]
          rw [st]
          exact r
        · refine ⟨S1, o1, Or.inl ⟨?_, ?_⟩⟩
          · rw [num, if_neg (fun z => es z.2)]
          · apply goal2
            unfold fX12_numbers_j77
            rw [in13, cal_s, if_neg hne, r2, byte_s h1 ht (by omega), cal_s, hsep]
            unfold fX12_numbers_j113
            rw [if_neg (fun z => es ((sep_eq (byT_le h _) c i).2.mp z))]
      · refine ⟨S1, o1, Or.inl ⟨?_, ?_⟩⟩
        · rw [num, if_neg (fun z => ?_)]
          rcases fg34 (byT n B) p with x | x
          · have : byT n B (p + 3) = sepOf c i := by rw [← x.2.1]; exact z.2
            unfold sepOf at this
            split at this <;> omega
          · omega
        · apply goal2
          unfold fX12_numbers_j77
          rw [in13, if_neg e0, cal_s, if_pos rfl]
