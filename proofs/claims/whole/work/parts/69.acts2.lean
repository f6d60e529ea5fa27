/-! LET, WHY, UNLIKE, LEAST, DONEBY -/
theorem asked_n (S : St) {t v th y f : Nat} (m1 : fX12_isTongue S (nI t) = some 1) (m2 : fX12_in S (nI v).toInt64 0 5 = some 1) (m3 : fX12_in S (nI th).toInt64 0 5 = some 1) (m4 : fX12_isYear S (nI y) = some 1) (m5 : fX12_in S (nI f).toInt64 0 255 = some 1) : fX12_isAsked S (nI t) (nI v) (nI th) (nI y) (nI f) = some 1 := by
  have hne : ¬ (1 : Int32) = 0 := by decide
  simp only [fX12_isAsked, m1, m2, m3, m4, m5, cal_s, if_neg hne]
theorem a_asked (p1 p2 p3 p4 p5 : Int32) (F : Nat) (S : St) : (fX11_let F S p1 p2 p3 p4 p5 = some (-1, S) ∧ fX11_why F S p1 p2 p3 p4 p5 = some (-1, S) ∧ fX12_let F S p1 p2 p3 p4 p5 = some (-1, S) ∧ fX12_why F S p1 p2 p3 p4 p5 = some (-1, S)) ∨ ∃ t v th y f : Nat, p1 = nI t ∧ p2 = nI v ∧ p3 = nI th ∧ p4 = nI y ∧ p5 = nI f ∧ t < 2 ∧ v < 6 ∧ th < 6 ∧ y ≤ 200 ∧ f < 256 ∧ (∀ S, fX11_isTongue S (nI t) = some 1 ∧ fX11_isVerb S (nI v) = some 1 ∧ fX11_isThing S (nI th) = some 1 ∧ fX11_isYear S (nI y) = some 1 ∧ fX11_isFactSet S (nI f) = some 1) ∧ ∀ S, fX12_isAsked S (nI t) (nI v) (nI th) (nI y) (nI f) = some 1 := by
  have hne : ¬ (1 : Int32) = 0 := by decide
  rcases a_tongue p1 with ⟨c1, m1⟩ | ⟨t, rfl, u1, c1, m1⟩
  · left; refine ⟨?_, ?_, ?_, ?_⟩
    · simp only [fX11_let, c1, cal_s]; rfl
    · simp only [fX11_why, c1, cal_s]; rfl
    · simp only [fX12_let, fX12_isAsked, m1, cal_s]; rfl
    · simp only [fX12_why, fX12_isAsked, m1, cal_s]; rfl
  rcases a_verb p2 with ⟨c2, m2⟩ | ⟨v, rfl, u2, c2, m2⟩
  · left; refine ⟨?_, ?_, ?_, ?_⟩
    · simp only [fX11_let, c1, c2, cal_s, if_neg hne]; rfl
    · simp only [fX11_why, c1, c2, cal_s, if_neg hne]; rfl
    · simp only [fX12_let, fX12_isAsked, m1, m2, cal_s, if_neg hne]; rfl
    · simp only [fX12_why, fX12_isAsked, m1, m2, cal_s, if_neg hne]; rfl
  rcases a_thing p3 with ⟨c3, m3⟩ | ⟨th, rfl, u3, c3, m3⟩
  · left; refine ⟨?_, ?_, ?_, ?_⟩
    · simp only [fX11_let, c1, c2, c3, cal_s, if_neg hne]; rfl
    · simp only [fX11_why, c1, c2, c3, cal_s, if_neg hne]; rfl
    · simp only [fX12_let, fX12_isAsked, m1, m2, m3, cal_s, if_neg hne]; rfl
    · simp only [fX12_why, fX12_isAsked, m1, m2, m3, cal_s, if_neg hne]; rfl
  rcases a_year p4 with ⟨c4, m4⟩ | ⟨y, rfl, u4, c4, m4⟩
  · left; refine ⟨?_, ?_, ?_, ?_⟩
    · simp only [fX11_let, c1, c2, c3, c4, cal_s, if_neg hne]; rfl
    · simp only [fX11_why, c1, c2, c3, c4, cal_s, if_neg hne]; rfl
    · simp only [fX12_let, fX12_isAsked, m1, m2, m3, m4, cal_s, if_neg hne]; rfl
    · simp only [fX12_why, fX12_isAsked, m1, m2, m3, m4, cal_s, if_neg hne]; rfl
  rcases a_facts p5 with ⟨c5, m5⟩ | ⟨f, rfl, u5, c5, m5⟩
  · left; refine ⟨?_, ?_, ?_, ?_⟩
    · simp only [fX11_let, c1, c2, c3, c4, c5, cal_s, if_neg hne]; rfl
    · simp only [fX11_why, c1, c2, c3, c4, c5, cal_s, if_neg hne]; rfl
    · simp only [fX12_let, fX12_isAsked, m1, m2, m3, m4, m5, cal_s, if_neg hne]; rfl
    · simp only [fX12_why, fX12_isAsked, m1, m2, m3, m4, m5, cal_s, if_neg hne]; rfl
  exact Or.inr ⟨t, v, th, y, f, rfl, rfl, rfl, rfl, rfl, u1, u2, u3, u4, u5, fun S => ⟨c1 S, c2 S, c3 S, c4 S, c5 S⟩, fun S => asked_n S (m1 S) (m2 S) (m3 S) (m4 S) (m5 S)⟩
theorem Q_why {S : St} {nv n : Nat → Nat} {V E : Nat → Nat → Nat → Nat} (hv : ∀ t, t < 2 → IvW S t (nv t) (V t)) (h : ∀ t, t < 2 → IvI S t (n t) (E t)) (F : Nat) (hF : 1000 ≤ F) (p1 p2 p3 p4 p5 : Int32) : ∃ (r : Int32) (S1 S2 : St), fX11_why F S p1 p2 p3 p4 p5 = some (r, S1) ∧ fX12_why F S1 p1 p2 p3 p4 p5 = some (r, S2) ∧ Ch 99 S S2 ∧ gC S1 = gC S ∧ gC S2 = gC S := by
  have hne : ¬ (1 : Int32) = 0 := by decide
  rcases a_asked p1 p2 p3 p4 p5 F S with ⟨-, b, -, d⟩ | ⟨t, v, th, y, f, rfl, rfl, rfl, rfl, rfl, u1, u2, u3, u4, u5, c, m⟩
  · exact ⟨-1, S, S, b, d, Ch.rf _ _, rfl, rfl⟩
  obtain ⟨S1, a1, a2, a3, a4⟩ := C_learn u1 F y hF u4 (hv t u1) (h t u1)
  obtain ⟨S2, b1, b2, b3, b4⟩ := M_lay (nv := nv) (n := n) (V := V) (E := E) (S := S1) F y hF u4 (fun t ht => (hv t ht).off a2 own52 ht) (fun t ht => (h t ht).off a2 own52 ht)
  have r1 := C_ruling (M := fun w => mean (V t) (E t) (nv t) (n t) w y) ((h t u1).off a2 own52 u1) u1 (fun w hw => ⟨a4 w hw, mean_lt (hv t u1) (h t u1) w y⟩) F v th y f hF u2 u3 u4
  have r2 := M_why (b3 t u1) u1 (b4 t u1) F (6 * v + th) y f hF (by omega) u4
  rw [show (6 * v + th) / 6 = v by omega, show (6 * v + th) % 6 = th by omega] at r2
  have e6 : (6 : Int32) * nI v + nI th = nI (6 * v + th) := by rw [show (6 : Int32) * nI v = nI (6 * v) from pk_mul 6 v, nI_add]
  refine ⟨rcode (rl (E t) (fun w => mean (V t) (E t) (nv t) (n t) w y) v th y f (n t)), S1, S2, ?_, ?_, ((a2.ch own52).trans (b2.ch own74)), a2.2.2, b2.2.2.trans a2.2.2⟩
  · obtain ⟨c1, c2, c3, c4, c5⟩ := c S
    simp only [fX11_why, c1, c2, c3, c4, c5, cal_s, if_neg hne, tongue_of S u1, gd_p u1, a1, r1]
  · simp only [fX12_why, m, cal_s, if_neg hne, b1, e6, r2]
theorem Q_let {S : St} {nv n : Nat → Nat} {V E : Nat → Nat → Nat → Nat} (hv : ∀ t, t < 2 → IvW S t (nv t) (V t)) (h : ∀ t, t < 2 → IvI S t (n t) (E t)) (F : Nat) (hF : 1000 ≤ F) (p1 p2 p3 p4 p5 : Int32) : ∃ (r : Int32) (S1 S2 : St), fX11_let F S p1 p2 p3 p4 p5 = some (r, S1) ∧ fX12_let F S1 p1 p2 p3 p4 p5 = some (r, S2) ∧ Ch 99 S S2 ∧ gC S1 = gC S ∧ gC S2 = gC S := by
  have hne : ¬ (1 : Int32) = 0 := by decide
  rcases a_asked p1 p2 p3 p4 p5 F S with ⟨b, -, d, -⟩ | ⟨t, v, th, y, f, rfl, rfl, rfl, rfl, rfl, u1, u2, u3, u4, u5, c, m⟩
  · exact ⟨-1, S, S, b, d, Ch.rf _ _, rfl, rfl⟩
  obtain ⟨S1, a1, a2, a3, a4⟩ := C_learn u1 F y hF u4 (hv t u1) (h t u1)
  obtain ⟨S2, b1, b2, b3, b4⟩ := M_lay (nv := nv) (n := n) (V := V) (E := E) (S := S1) F y hF u4 (fun t ht => (hv t ht).off a2 own52 ht) (fun t ht => (h t ht).off a2 own52 ht)
  have r1 := C_lets (M := fun w => mean (V t) (E t) (nv t) (n t) w y) ((h t u1).off a2 own52 u1) u1 (fun w hw => ⟨a4 w hw, mean_lt (hv t u1) (h t u1) w y⟩) F v th y f hF u2 u3 u4
  have r2 := M_lets (b3 t u1) u1 (b4 t u1) F (6 * v + th) y f hF (by omega) u4
  rw [show (6 * v + th) / 6 = v by omega, show (6 * v + th) % 6 = th by omega] at r2
  have e6 : (6 : Int32) * nI v + nI th = nI (6 * v + th) := by rw [show (6 : Int32) * nI v = nI (6 * v) from pk_mul 6 v, nI_add]
  obtain ⟨c1, c2, c3, c4, c5⟩ := c S
  by_cases e : letB (E t) (rl (E t) (fun w => mean (V t) (E t) (nv t) (n t) w y) v th y f (n t)) = true
  · rw [if_pos e] at r1
    have r2' : fX12_isLet F S2 (nI t) (nI (6 * v + th)) (nI y) (nI f) = some 1 := r2.trans (by rw [if_pos e])
    exact ⟨1, S1, S2, by simp only [fX11_let, c1, c2, c3, c4, c5, cal_s, if_neg hne, tongue_of S u1, gd_p u1, a1, r1], by simp only [fX12_let, m, cal_s, if_neg hne, b1, e6, r2'], ((a2.ch own52).trans (b2.ch own74)), a2.2.2, b2.2.2.trans a2.2.2⟩
  · rw [if_neg e] at r1
    have r2' : fX12_isLet F S2 (nI t) (nI (6 * v + th)) (nI y) (nI f) = some 0 := r2.trans (by rw [if_neg e])
    exact ⟨0, S1, S2, by simp only [fX11_let, c1, c2, c3, c4, c5, cal_s, if_neg hne, tongue_of S u1, gd_p u1, a1, r1, if_true], by simp only [fX12_let, m, cal_s, if_neg hne, b1, e6, r2', if_true], ((a2.ch own52).trans (b2.ch own74)), a2.2.2, b2.2.2.trans a2.2.2⟩
theorem L_unlike (F : Nat) (d : Nat → Bool) (x1 x2 p3 : Int32) (kk : Int32 → Int32) : ∀ m i x4, i ≤ 36 → 36 < i + m → ∃ r, (∀ S, (∀ a, a < 36 → fX11_differ F S (nI a) x1 x2 = some (if d a = true then 1 else 0)) → ∀ k : Int32 → Option (Int32 × St), (∀ x, k x = some (kk x, S)) → fX11_unlike_L32 F S x1 x2 p3 k m x4 (nI i) = some (r, S)) ∧ ∀ S, (∀ a, a < 36 → fX12_isUnlike F S (nI a) x1 x2 = some (if d a = true then 1 else 0)) → ∀ k : Int32 → Option (Int32 × St), (∀ x, k x = some (kk x, S)) → fX12_unlike_L37 F S x1 x2 p3 k m x4 (nI i) = some (r, S) := by
  have hne : ¬ (1 : Int32) = 0 := by decide
  intro m
  induction m with
  | zero => intro i x4 q1 q2; omega
  | succ m ih =>
    intro i x4 q1 q2
    by_cases e : i = 36
    · subst e
      refine ⟨kk x4, fun S hd k hk => ?_, fun S hd k hk => ?_⟩
      · simp only [fX11_unlike_L32, fX11_unlike_b32]; rw [if_pos (show (36 : Int32) ≤ nI 36 by decide), hk]
      · simp only [fX12_unlike_L37, fX12_unlike_b37]; rw [if_pos (show (36 : Int32) ≤ nI 36 by decide), hk]
    · have e8 : ¬ (36 : Int32) ≤ nI i := c_nle (a := 36) (by omega) (by omega)
      by_cases hd0 : d i = true
      · by_cases ex : x4 = p3
        · refine ⟨nI i, fun S hd k hk => ?_, fun S hd k hk => ?_⟩
          · simp only [fX11_unlike_L32, fX11_unlike_b32]; rw [if_neg e8, hd i (by omega), if_pos hd0, cal_s, if_neg hne, if_pos ex]
          · simp only [fX12_unlike_L37, fX12_unlike_b37]; rw [if_neg e8, hd i (by omega), if_pos hd0, cal_s, if_neg hne, if_pos ex]
        · obtain ⟨r, a, b⟩ := ih (i + 1) (x4 + 1) (by omega) (by omega)
          refine ⟨r, fun S hd k hk => ?_, fun S hd k hk => ?_⟩
          · simp only [fX11_unlike_L32, fX11_unlike_b32]; rw [if_neg e8, hd i (by omega), if_pos hd0, cal_s, if_neg hne, if_neg ex, nI_a1]; exact a S hd k hk
          · simp only [fX12_unlike_L37, fX12_unlike_b37]; rw [if_neg e8, hd i (by omega), if_pos hd0, cal_s, if_neg hne, if_neg ex, nI_a1]; exact b S hd k hk
      · obtain ⟨r, a, b⟩ := ih (i + 1) x4 (by omega) (by omega)
        refine ⟨r, fun S hd k hk => ?_, fun S hd k hk => ?_⟩
        · simp only [fX11_unlike_L32, fX11_unlike_b32]; rw [if_neg e8, hd i (by omega), if_neg hd0, cal_s, if_pos rfl, nI_a1]; exact a S hd k hk
        · simp only [fX12_unlike_L37, fX12_unlike_b37]; rw [if_neg e8, hd i (by omega), if_neg hd0, cal_s, if_pos rfl, nI_a1]; exact b S hd k hk
theorem m1_or {p : Int32} (h : (-1) ≤ p) : (p = -1 ∧ ¬ (0 : Int32) ≤ p) ∨ (¬ p = -1 ∧ (0 : Int32) ≤ p) := by
  have h1 := (t_le _ _).mp h
  rw [show (-1 : Int32).toInt = -1 by decide] at h1
  by_cases e : p = -1
  · left; refine ⟨e, ?_⟩; rw [e]; decide
  · right; refine ⟨e, (t_le _ _).mpr ?_⟩
    have : p.toInt ≠ -1 := fun q => e ((t_eq _ _).mpr (by rw [q]; decide))
    rw [show (0 : Int32).toInt = 0 by decide]; omega
theorem Q_unlike {S : St} {nv n : Nat → Nat} {V E : Nat → Nat → Nat → Nat} (hv : ∀ t, t < 2 → IvW S t (nv t) (V t)) (h : ∀ t, t < 2 → IvI S t (n t) (E t)) (F : Nat) (hF : 1000 ≤ F) (p1 p2 p3 : Int32) : ∃ (r : Int32) (S1 S2 : St), fX11_unlike F S p1 p2 p3 = some (r, S1) ∧ fX12_unlike F S1 p1 p2 p3 = some (r, S2) ∧ Ch 99 S S2 ∧ gC S1 = gC S ∧ gC S2 = gC S := by
  have hne : ¬ (1 : Int32) = 0 := by decide
  have bad : fX11_unlike F S p1 p2 p3 = some (-1, S) → fX12_unlike F S p1 p2 p3 = some (-1, S) → ∃ (r : Int32) (S1 S2 : St), fX11_unlike F S p1 p2 p3 = some (r, S1) ∧ fX12_unlike F S1 p1 p2 p3 = some (r, S2) ∧ Ch 99 S S2 ∧ gC S1 = gC S ∧ gC S2 = gC S := fun a b => ⟨-1, S, S, a, b, Ch.rf _ _, rfl, rfl⟩
  rcases a_year p1 with ⟨c1, m1⟩ | ⟨y, rfl, u1, c1, m1⟩
  · exact bad (by simp only [fX11_unlike, c1, cal_s]; rfl) (by simp only [fX12_unlike, m1, cal_s]; rfl)
  rcases a_facts p2 with ⟨c2, m2⟩ | ⟨f, rfl, u2, c2, m2⟩
  · exact bad (by simp only [fX11_unlike, c1, c2, cal_s, if_neg hne]; rfl) (by simp only [fX12_unlike, m1, m2, cal_s, if_neg hne]; rfl)
  by_cases e3 : (-1) ≤ p3
  · obtain ⟨S1, a1, a2, a3⟩ := C_learn2 F y hF u1 hv h
    obtain ⟨S2, b1, b2, b3⟩ := M_lay (nv := nv) (n := n) (V := V) (E := E) (S := S1) F y hF u1 (fun t ht => (hv t ht).off a2 own52 ht) (fun t ht => (h t ht).off a2 own52 ht)
    obtain ⟨r, x, z⟩ := L_unlike F (fun a => dif n E (fun t w => mean (V t) (E t) (nv t) (n t) w y) a y f) (nI y) (nI f) p3 (fun x => if p3 = -1 then x else -4) F 0 0 (by omega) (by omega)
    have x1 := x S1 (fun a ha => C_differ a3 F a y f hF ha u1) (fun x4_5 => if p3 = -1 then some (x4_5, S1) else some (-4, S1)) (fun x => by by_cases q : p3 = -1 <;> simp only [q, if_true, if_false])
    have z1 := z S2 (fun a ha => M_differ b3 F a y f hF ha u1) (fun x4_5 => if 0 ≤ p3 then some (-4, S2) else some (x4_5, S2)) (fun x => by
      rcases m1_or e3 with ⟨q1, q2⟩ | ⟨q1, q2⟩
      · rw [if_pos q1, if_neg q2]
      · rw [if_neg q1, if_pos q2])
    refine ⟨r, S1, S2, ?_, ?_, ((a2.ch own52).trans (b2.ch own74)), a2.2.2, b2.2.2.trans a2.2.2⟩
    · simp only [fX11_unlike, c1, c2, cal_s, if_neg hne, if_pos e3, a1]
      exact x1
    · simp only [fX12_unlike, m1, m2, cal_s, if_neg hne, if_pos e3, b1]
      exact z1
  · exact bad (by simp only [fX11_unlike, c1, c2, cal_s, if_neg hne, if_neg e3]) (by simp only [fX12_unlike, m1, m2, cal_s, if_neg hne, if_neg e3])
theorem ne4 {s : Nat} (h : s < 2147483648) : ¬ nI s = (-4 : Int32) := fun z => by
  have := congrArg Int32.toInt z
  rw [t_nI h, show (-4 : Int32).toInt = -4 by decide] at this
  omega
theorem L_least (F : Nat) (hF : 1000 ≤ F) (d : Nat → Bool) (x1 x2 : Int32) : ∀ m i x3, i ≤ 256 → 256 < i + m → (x3 = -4 ∨ ∃ s : Nat, s < 256 ∧ x3 = nI s) → ∃ r, (∀ S, (∀ f, f < 256 → fX11_differ F S x1 x2 (nI f) = some (if d f = true then 1 else 0)) → fX11_least_L27 F S x1 x2 m x3 (nI i) = some (r, S)) ∧ ∀ S, (∀ f, f < 256 → fX12_isUnlike F S x1 x2 (nI f) = some (if d f = true then 1 else 0)) → fX12_least_L32 F S x1 x2 m x3 (nI i) = some (r, S) := by
  have hne : ¬ (1 : Int32) = 0 := by decide
  intro m
  induction m with
  | zero => intro i x3 q1 q2; omega
  | succ m ih =>
    intro i x3 q1 q2 hx
    by_cases e : i = 256
    · subst e
      refine ⟨x3, fun S hd => ?_, fun S hd => ?_⟩
      · simp only [fX11_least_L27, fX11_least_b27]; rw [if_pos (show (256 : Int32) ≤ nI 256 by decide)]
      · simp only [fX12_least_L32, fX12_least_b32]; rw [if_pos (show (256 : Int32) ≤ nI 256 by decide)]
    · have e8 : ¬ (256 : Int32) ≤ nI i := c_nle (a := 256) (by omega) (by omega)
      obtain ⟨r0, a0, b0⟩ := ih (i + 1) x3 (by omega) (by omega) hx
      obtain ⟨r1, a1, b1⟩ := ih (i + 1) (nI i) (by omega) (by omega) (Or.inr ⟨i, by omega, rfl⟩)
      have go : ∃ r, (∀ S, (∀ f, f < 256 → fX11_differ F S x1 x2 (nI f) = some (if d f = true then 1 else 0)) → fX11_least_j58 F S x1 x2 x3 (nI i) 1 (fX11_least_L27 F S x1 x2 m) = some (r, S)) ∧ ∀ S, (∀ f, f < 256 → fX12_isUnlike F S x1 x2 (nI f) = some (if d f = true then 1 else 0)) → fX12_least_j58 F S x1 x2 x3 (nI i) (fX12_least_L32 F S x1 x2 m) = some (r, S) := by
        by_cases hd0 : d i = true
        · refine ⟨r1, fun S hd => ?_, fun S hd => ?_⟩
          · unfold fX11_least_j58; rw [if_neg hne, hd i (by omega), if_pos hd0, cal_s, if_neg hne, nI_a1]; exact a1 S hd
          · unfold fX12_least_j58; rw [hd i (by omega), if_pos hd0, cal_s, if_neg hne, nI_a1]; exact b1 S hd
        · refine ⟨r0, fun S hd => ?_, fun S hd => ?_⟩
          · unfold fX11_least_j58; rw [if_neg hne, hd i (by omega), if_neg hd0, cal_s, if_pos rfl, nI_a1]; exact a0 S hd
          · unfold fX12_least_j58; rw [hd i (by omega), if_neg hd0, cal_s, if_pos rfl, nI_a1]; exact b0 S hd
      obtain ⟨rg, ag, bg⟩ := go
      rcases hx with hx | ⟨s, hs, hx⟩
      · refine ⟨rg, fun S hd => ?_, fun S hd => ?_⟩
        · simp only [fX11_least_L27, fX11_least_b27]; rw [if_neg e8, if_pos hx]; exact ag S hd
        · simp only [fX12_least_L32, fX12_least_b32]; rw [if_neg e8, if_pos hx]; exact bg S hd
      · have n4 : ¬ x3 = -4 := by rw [hx]; exact ne4 (by omega)
        by_cases ep : pc10 s ≤ pc10 i
        · have ep2 : nI (pc10 s) ≤ nI (pc10 i) := c_le ep (by have := pc10_le i; omega)
          refine ⟨r0, fun S hd => ?_, fun S hd => ?_⟩
          · simp only [fX11_least_L27, fX11_least_b27]
            rw [if_neg e8, if_neg n4, bc_n S (show i < 1024 by omega), cal_s, hx, bc_n S (show s < 1024 by omega), cal_s, if_pos ep2]
            unfold fX11_least_j58
            rw [if_pos rfl, nI_a1, ← hx]; exact a0 S hd
          · simp only [fX12_least_L32, fX12_least_b32]
            rw [if_neg e8, if_neg n4, bits_n F S hF (show i < 1024 by omega), cal_s, hx, bits_n F S hF (show s < 1024 by omega), cal_s, if_pos ep2, nI_a1, ← hx]; exact b0 S hd
        · have ep2 : ¬ nI (pc10 s) ≤ nI (pc10 i) := c_nle (by omega) (by have := pc10_le s; omega)
          refine ⟨rg, fun S hd => ?_, fun S hd => ?_⟩
          · simp only [fX11_least_L27, fX11_least_b27]
            rw [if_neg e8, if_neg n4, bc_n S (show i < 1024 by omega), cal_s, hx, bc_n S (show s < 1024 by omega), cal_s, if_neg ep2, ← hx]
            exact ag S hd
          · simp only [fX12_least_L32, fX12_least_b32]
            rw [if_neg e8, if_neg n4, bits_n F S hF (show i < 1024 by omega), cal_s, hx, bits_n F S hF (show s < 1024 by omega), cal_s, if_neg ep2, ← hx]; exact bg S hd
theorem Q_least {S : St} {nv n : Nat → Nat} {V E : Nat → Nat → Nat → Nat} (hv : ∀ t, t < 2 → IvW S t (nv t) (V t)) (h : ∀ t, t < 2 → IvI S t (n t) (E t)) (F : Nat) (hF : 1000 ≤ F) (p1 p2 : Int32) : ∃ (r : Int32) (S1 S2 : St), fX11_least F S p1 p2 = some (r, S1) ∧ fX12_least F S1 p1 p2 = some (r, S2) ∧ Ch 99 S S2 ∧ gC S1 = gC S ∧ gC S2 = gC S := by
  have hne : ¬ (1 : Int32) = 0 := by decide
  have bad : fX11_least F S p1 p2 = some (-1, S) → fX12_least F S p1 p2 = some (-1, S) → ∃ (r : Int32) (S1 S2 : St), fX11_least F S p1 p2 = some (r, S1) ∧ fX12_least F S1 p1 p2 = some (r, S2) ∧ Ch 99 S S2 ∧ gC S1 = gC S ∧ gC S2 = gC S := fun a b => ⟨-1, S, S, a, b, Ch.rf _ _, rfl, rfl⟩
  rcases a_act p1 with ⟨c1, m1⟩ | ⟨a, rfl, u1, c1, m1⟩
  · exact bad (by simp only [fX11_least, c1, cal_s]; rfl) (by simp only [fX12_least, m1, cal_s]; rfl)
  rcases a_year p2 with ⟨c2, m2⟩ | ⟨y, rfl, u2, c2, m2⟩
  · exact bad (by simp only [fX11_least, c1, c2, cal_s, if_neg hne]; rfl) (by simp only [fX12_least, m1, m2, cal_s, if_neg hne]; rfl)
  obtain ⟨S1, a1, a2, a3⟩ := C_learn2 F y hF u2 hv h
  obtain ⟨S2, b1, b2, b3⟩ := M_lay (nv := nv) (n := n) (V := V) (E := E) (S := S1) F y hF u2 (fun t ht => (hv t ht).off a2 own52 ht) (fun t ht => (h t ht).off a2 own52 ht)
  obtain ⟨r, x, z⟩ := L_least F hF (fun f => dif n E (fun t w => mean (V t) (E t) (nv t) (n t) w y) a y f) (nI a) (nI y) F 0 (-4) (by omega) (by omega) (Or.inl rfl)
  refine ⟨r, S1, S2, ?_, ?_, ((a2.ch own52).trans (b2.ch own74)), a2.2.2, b2.2.2.trans a2.2.2⟩
  · simp only [fX11_least, c1, c2, cal_s, if_neg hne, a1]
    exact x S1 (fun f hf => C_differ a3 F a y f hF u1 u2)
  · simp only [fX12_least, m1, m2, cal_s, if_neg hne, b1]
    exact z S2 (fun f hf => M_differ b3 F a y f hF u1 u2)
/-- the first tongue's word i, as the second has it -/
def upM (M : Nat → Nat → Nat) (i : Nat) : Nat → Nat → Nat := fun t w => if t = 0 ∧ w = i then M 1 i else M t w
theorem CD_up {S : St} {n : Nat → Nat} {E : Nat → Nat → Nat → Nat} {M : Nat → Nat → Nat} (h : CD n E M S) {i : Nat} (hi : i < 8) : CD n E (upM M i) (pA S 52 0 i (gA S 52 1 i)) := by
  refine ⟨fun t ht => (h.1 t ht).off ((OffK.rf 52 S).pA 0 i _) own52 ht, fun t ht w hw => ?_⟩
  unfold upM
  by_cases e : t = 0 ∧ w = i
  · obtain ⟨rfl, rfl⟩ := e
    rw [gA_ps, if_pos ⟨rfl, rfl⟩]; exact h.2 1 (by decide) w hw
  · rw [if_neg e, gA_pA, if_neg (fun q => e ⟨q.2.1, q.2.2⟩)]; exact h.2 t ht w hw
theorem CD_dn {S : St} {n : Nat → Nat} {E : Nat → Nat → Nat → Nat} {M : Nat → Nat → Nat} {i : Nat} (h : CD n E (upM M i) S) (hm : M 0 i < 64) : CD n E M (pA S 52 0 i (nI (M 0 i))) := by
  refine ⟨fun t ht => (h.1 t ht).off ((OffK.rf 52 S).pA 0 i _) own52 ht, fun t ht w hw => ?_⟩
  have q := h.2 t ht w hw
  unfold upM at q
  by_cases e : t = 0 ∧ w = i
  · obtain ⟨rfl, rfl⟩ := e
    rw [gA_ps]; exact ⟨rfl, hm⟩
  · rw [if_neg e] at q
    rw [gA_pA, if_neg (fun q => e ⟨q.2.1, q.2.2⟩)]; exact q
theorem MD_up {S : St} {n : Nat → Nat} {E : Nat → Nat → Nat → Nat} {M : Nat → Nat → Nat} (h : MD n E M S) {i : Nat} (hi : i < 8) : MD n E (upM M i) (pA S 74 0 i (gA S 74 0 (8 + i))) := by
  refine ⟨fun t ht => (h.1 t ht).off ((OffK.rf 74 S).pA 0 i _) own74 ht, fun t ht w hw => ?_⟩
  unfold upM
  by_cases e : t = 0 ∧ w = i
  · obtain ⟨rfl, rfl⟩ := e
    rw [if_pos ⟨rfl, rfl⟩, show 8 * 0 + w = w by omega, gA_ps]
    exact h.2 1 (by decide) w hw
  · rw [if_neg e, gA_pi _ _ _ _ _ _ (show 8 * t + w ≠ i by omega)]; exact h.2 t ht w hw
theorem MD_dn {S : St} {n : Nat → Nat} {E : Nat → Nat → Nat → Nat} {M : Nat → Nat → Nat} {i : Nat} (h : MD n E (upM M i) S) (hi : i < 8) (hm : M 0 i < 64) : MD n E M (pA S 74 0 i (nI (M 0 i))) := by
  refine ⟨fun t ht => (h.1 t ht).off ((OffK.rf 74 S).pA 0 i _) own74 ht, fun t ht w hw => ?_⟩
  have q := h.2 t ht w hw
  unfold upM at q
  by_cases e : t = 0 ∧ w = i
  · obtain ⟨rfl, rfl⟩ := e
    rw [show 8 * 0 + w = w by omega, gA_ps]; exact ⟨rfl, hm⟩
  · rw [if_neg e] at q
    rw [gA_pi _ _ _ _ _ _ (show 8 * t + w ≠ i by omega)]; exact q
theorem or0 (x : Int32) : x ||| 0 = x := by simp
theorem L_done (F : Nat) (hF : 1000 ≤ F) (n : Nat → Nat) (E : Nat → Nat → Nat → Nat) (M : Nat → Nat → Nat) (a y f : Nat) (ha : a < 36) (hy : y ≤ 200) : ∀ m i x4, i ≤ 8 → 8 < i + m → ∃ r, (∀ S, CD n E M S → ∃ S', fX11_doneBy_L47 F (nI a) (nI y) (nI f) m x4 (nI i) S = some (r, S') ∧ OffK 52 S S') ∧ ∀ S, MD n E M S → ∃ S', fX12_doneBy_L57 F (nI a) (nI y) (nI f) m x4 (nI i) S = some (r, S') ∧ OffK 74 S S' := by
  have hne : ¬ (1 : Int32) = 0 := by decide
  intro m
  induction m with
  | zero => intro i x4 q1 q2; omega
  | succ m ih =>
    intro i x4 q1 q2
    by_cases e : i = 8
    · subst e
      refine ⟨x4, fun S hd => ⟨S, ?_, OffK.rf _ _⟩, fun S hd => ⟨S, ?_, OffK.rf _ _⟩⟩
      · simp only [fX11_doneBy_L47, fX11_doneBy_b47]; rw [if_pos (show (8 : Int32) ≤ nI 8 by decide)]
      · simp only [fX12_doneBy_L57, fX12_doneBy_b57]; rw [if_pos (show (8 : Int32) ≤ nI 8 by decide)]
    · have e8 : ¬ (8 : Int32) ≤ nI i := c_nle (a := 8) (by omega) (by omega)
      have ea : (8 : Int32) + nI i = nI (8 + i) := nI_add 8 i
      obtain ⟨r, x, z⟩ := ih (i + 1) (if dif n E (upM M i) a y f = true then x4 else x4 ||| ((1 : Int32) <<< (nI i &&& 31))) (by omega) (by omega)
      refine ⟨r, fun S hd => ?_, fun S hd => ?_⟩
      · have h7 := CD_up hd (show i < 8 by omega)
        have hm := hd.2 0 (by decide) i (by omega)
        have h9 := CD_dn h7 hm.2
        obtain ⟨S', p, o⟩ := x _ h9
        refine ⟨S', ?_, (((OffK.rf 52 S).pA 0 i _).pA 0 i _).tr o⟩
        simp only [fX11_doneBy_L47, fX11_doneBy_b47, fX11_doneBy_j105]
        rw [if_neg e8]
        simp only [ix_nI (show i < 8 by omega) (by decide), gd_t, bnd_e, cl (show i < 2147483648 by omega)]
        rw [C_differ h7 F a y f hF ha hy, cal_s, hm.1, nI_a1]
        by_cases c : dif n E (upM M i) a y f = true
        · rw [if_pos c, if_neg hne]; rw [if_pos c] at p; exact p
        · rw [if_neg c, if_pos rfl]; rw [if_neg c] at p; exact p
      · have h7 := MD_up hd (show i < 8 by omega)
        have hm := hd.2 0 (by decide) i (by omega)
        have h9 := MD_dn h7 (by omega) hm.2
        obtain ⟨S', p, o⟩ := z _ h9
        refine ⟨S', ?_, (((OffK.rf 74 S).pA 0 i _).pA 0 i _).tr o⟩
        simp only [fX12_doneBy_L57, fX12_doneBy_b57, fX12_doneBy_j110]
        rw [if_neg e8]
        simp only [ea, ix_nI (show i < 16 by omega) (by decide), ix_nI (show 8 + i < 16 by omega) (by decide), gd_t, bnd_e, cl (show i < 2147483648 by omega), cl (show 8 + i < 2147483648 by omega)]
        rw [M_differ h7 F a y f hF ha hy, cal_s, nI_a1]
        have hm1 := hm.1
        rw [show 8 * 0 + i = i by omega] at hm1
        rw [hm1]
        by_cases c : dif n E (upM M i) a y f = true
        · rw [if_pos c, if_neg hne, or0]; rw [if_pos c] at p; exact p
        · rw [if_neg c, if_pos rfl]; rw [if_neg c] at p; exact p
theorem Q_doneBy {S : St} {nv n : Nat → Nat} {V E : Nat → Nat → Nat → Nat} (hv : ∀ t, t < 2 → IvW S t (nv t) (V t)) (h : ∀ t, t < 2 → IvI S t (n t) (E t)) (F : Nat) (hF : 1000 ≤ F) (p1 p2 p3 : Int32) : ∃ (r : Int32) (S1 S2 : St), fX11_doneBy F S p1 p2 p3 = some (r, S1) ∧ fX12_doneBy F S1 p1 p2 p3 = some (r, S2) ∧ Ch 99 S S2 ∧ gC S1 = gC S ∧ gC S2 = gC S := by
  have hne : ¬ (1 : Int32) = 0 := by decide
  have bad : fX11_doneBy F S p1 p2 p3 = some (-1, S) → fX12_doneBy F S p1 p2 p3 = some (-1, S) → ∃ (r : Int32) (S1 S2 : St), fX11_doneBy F S p1 p2 p3 = some (r, S1) ∧ fX12_doneBy F S1 p1 p2 p3 = some (r, S2) ∧ Ch 99 S S2 ∧ gC S1 = gC S ∧ gC S2 = gC S := fun a b => ⟨-1, S, S, a, b, Ch.rf _ _, rfl, rfl⟩
  rcases a_act p1 with ⟨c1, m1⟩ | ⟨a, rfl, u1, c1, m1⟩
  · exact bad (by simp only [fX11_doneBy, c1, cal_s]; rfl) (by simp only [fX12_doneBy, m1, cal_s]; rfl)
  rcases a_year p2 with ⟨c2, m2⟩ | ⟨y, rfl, u2, c2, m2⟩
  · exact bad (by simp only [fX11_doneBy, c1, c2, cal_s, if_neg hne]; rfl) (by simp only [fX12_doneBy, m1, m2, cal_s, if_neg hne]; rfl)
  rcases a_facts p3 with ⟨c3, m3⟩ | ⟨f, rfl, u3, c3, m3⟩
  · exact bad (by simp only [fX11_doneBy, c1, c2, c3, cal_s, if_neg hne]; rfl) (by simp only [fX12_doneBy, m1, m2, m3, cal_s, if_neg hne]; rfl)
  obtain ⟨S1, a1, a2, a3⟩ := C_learn2 F y hF u2 hv h
  have d1 := C_differ a3 F a y f hF u1 u2
  by_cases c : dif n E (fun t w => mean (V t) (E t) (nv t) (n t) w y) a y f = true
  · obtain ⟨r, x, z⟩ := L_done F hF n E (fun t w => mean (V t) (E t) (nv t) (n t) w y) a y f u1 u2 F 0 0 (by omega) (by omega)
    obtain ⟨S3, p, o⟩ := x S1 a3
    obtain ⟨S2, b1, b2, b3⟩ := M_lay (nv := nv) (n := n) (V := V) (E := E) (S := S3) F y hF u2 (fun t ht => (hv t ht).off (a2.tr o) own52 ht) (fun t ht => (h t ht).off (a2.tr o) own52 ht)
    have d2 := M_differ b3 F a y f hF u1 u2
    obtain ⟨S4, p', o'⟩ := z S2 b3
    rw [if_pos c] at d1 d2
    refine ⟨r, S3, S4, ?_, ?_, (((a2.tr o).ch own52).trans ((b2.tr o').ch own74)), (a2.tr o).2.2, (b2.tr o').2.2.trans (a2.tr o).2.2⟩
    · simp only [fX11_doneBy, c1, c2, c3, cal_s, if_neg hne, a1, d1]
      exact p
    · simp only [fX12_doneBy, m1, m2, m3, cal_s, if_neg hne, b1, d2]
      exact p'
  · obtain ⟨S2, b1, b2, b3⟩ := M_lay (nv := nv) (n := n) (V := V) (E := E) (S := S1) F y hF u2 (fun t ht => (hv t ht).off a2 own52 ht) (fun t ht => (h t ht).off a2 own52 ht)
    have d2 := M_differ b3 F a y f hF u1 u2
    rw [if_neg c] at d1 d2
    refine ⟨-2, S1, S2, ?_, ?_, ((a2.ch own52).trans (b2.ch own74)), a2.2.2, b2.2.2.trans a2.2.2⟩
    · simp only [fX11_doneBy, c1, c2, c3, cal_s, if_neg hne, a1, d1]; rfl
    · simp only [fX12_doneBy, m1, m2, m3, cal_s, if_neg hne, b1, d2]; rfl
