/-! LAND: who holds a block -/
def VR (w : Nat) (x : Int32) : Prop := ∃ k : Nat, x = nI k - 1 ∧ (w = 0 → k ≤ 10) ∧ (w = 1 → 1 ≤ k ∧ k ≤ 1024)
theorem L_held {S : St} {n nb : Nat} {H : Nat → Nat → Nat} (h : IvH S n nb H) (hnb : nb ≤ 12) (F b yr w : Nat) (hw : w < 2) (hb : b < 1000) (hyr : yr ≤ 200) : ∀ (m i l : Nat) (x s : Int32), i ≤ n → n < i + m → VR w x → l ≤ 200 → (s = nI l ∨ (s = -1 ∧ l = 0)) → ∃ x', VR w x' ∧ fX4_holderIn_L10 F S (nI b) (nI w) (nI yr) m x (nI l) (nI i) = some x' ∧ fX12_heldBy_L17 F S (nI b) (nI yr) (nI w) m s x (nI (4 * i)) = some x' := by
  obtain ⟨h0, h1, h2, h3⟩ := h
  intro m
  induction m with
  | zero => intro i l x s q1 q2; omega
  | succ m ih =>
    intro i l x s q1 q2 hx hl hs
    simp only [fX4_holderIn_L10, fX12_heldBy_L17, fX4_holderIn_b10, fX12_heldBy_b17, h1, h2]
    by_cases e : i = n
    · subst e
      refine ⟨x, hx, ?_, ?_⟩ <;> simp (disch := omega) only [nI_lit, nI_add, pk_mul, nI_subn, cl, ix_nI, s_lt_t, s_lt_f, s_le_t, s_le_f, s_eq_t, s_eq_f, gd_t, gd_p, bnd_e, cal_s, if_true, if_false, ite_true, ite_false, and_true, true_and, and_false, false_and, not_true, not_false_eq_true]
    · obtain ⟨a0, a1, a2, a3, a4, a5, a6, a7, x0, x1, x2, x3, x4⟩ := h3 i (by omega)
      have hlt : ∀ y : Nat, y ≤ 200 → l ≤ y → (nI y < s) = False := by
        intro y hy hly
        rcases hs with hs | ⟨hs, hl0⟩
        · rw [hs]; exact s_lt_f hly (by omega)
        · rw [hs]; apply eq_false; intro q; have := (t_lt _ _).mp q; rw [t_nI (by omega), show (-1 : Int32).toInt = -1 by decide] at this; omega
      have hlt2 : ∀ y : Nat, y ≤ 200 → y < l → (nI y < s) = True := by
        intro y hy hly
        rcases hs with hs | ⟨hs, hl0⟩
        · rw [hs]; exact s_lt_t hly (by omega)
        · omega
      by_cases e1 : H 0 i = b
      · by_cases e2 : H 1 i = w
        · by_cases e3 : H 3 i ≤ yr
          · by_cases e4 : l ≤ H 3 i
            · have hwi : fX11_within S (nI (H 3 i)) (nI l) (nI yr) = some 1 := by
                rw [within_s, if_pos]
                rw [t_nI (by omega), t_nI (by omega), t_nI (by omega)]
                omega
              obtain ⟨x', r1, r2, r3⟩ := ih (i + 1) (H 3 i) (nI (H 2 i) - 1) (nI (H 3 i)) (by omega) (by omega) ⟨H 2 i, rfl, fun q => x2 (by omega), fun q => x3 (by omega)⟩ x4 (Or.inl rfl)
              refine ⟨x', r1, ?_, ?_⟩
              · rw [← r2]
                simp (disch := omega) only [fX4_holderIn_j46, a0, a1, a2, a3, hwi, cl, ix_nI, s_eq_t, s_le_f, if_true, if_false, gd_t, cal_s, bnd_e, nI_a1, show ¬ ((1 : Int32) = 0) by decide]
              · rw [← r3]
                simp (disch := omega) only [nI_lit 4, nI_lit 2, nI_lit 3, nI_lit 1, pk_mul, nI_add, a4, a5, a6, a7, cl, ix_nI, s_eq_t, s_le_f, s_lt_f, hlt, if_true, if_false, gd_t, bnd_e, show 4 * (i + 1) = 4 * i + 4 by omega]
            · have hwi : fX11_within S (nI (H 3 i)) (nI l) (nI yr) = some 0 := by
                rw [within_s, if_neg]
                rw [t_nI (by omega), t_nI (by omega), t_nI (by omega)]
                omega
              obtain ⟨x', r1, r2, r3⟩ := ih (i + 1) l x s (by omega) (by omega) hx hl hs
              refine ⟨x', r1, ?_, ?_⟩
              · rw [← r2]
                simp (disch := omega) only [fX4_holderIn_j46, a0, a1, a2, a3, hwi, cl, ix_nI, s_eq_t, s_le_f, if_true, if_false, gd_t, cal_s, bnd_e, nI_a1, show ¬ ((1 : Int32) = 0) by decide]
              · rw [← r3]
                simp (disch := omega) only [nI_lit 4, nI_lit 2, nI_lit 3, nI_lit 1, pk_mul, nI_add, a4, a5, a6, a7, cl, ix_nI, s_eq_t, s_le_f, s_lt_f, hlt2, if_true, if_false, gd_t, bnd_e, show 4 * (i + 1) = 4 * i + 4 by omega]
          · have hwi : fX11_within S (nI (H 3 i)) (nI l) (nI yr) = some 0 := by
              rw [within_s, if_neg]
              rw [t_nI (by omega), t_nI (by omega), t_nI (by omega)]
              omega
            obtain ⟨x', r1, r2, r3⟩ := ih (i + 1) l x s (by omega) (by omega) hx hl hs
            refine ⟨x', r1, ?_, ?_⟩
            · rw [← r2]
              simp (disch := omega) only [fX4_holderIn_j46, a0, a1, a2, a3, hwi, cl, ix_nI, s_eq_t, s_le_f, if_true, if_false, gd_t, cal_s, bnd_e, nI_a1, show ¬ ((1 : Int32) = 0) by decide]
            · rw [← r3]
              simp (disch := omega) only [nI_lit 4, nI_lit 2, nI_lit 3, nI_lit 1, pk_mul, nI_add, a4, a5, a6, a7, cl, ix_nI, s_eq_t, s_le_f, s_lt_t, if_true, if_false, gd_t, bnd_e, show 4 * (i + 1) = 4 * i + 4 by omega]
        · obtain ⟨x', r1, r2, r3⟩ := ih (i + 1) l x s (by omega) (by omega) hx hl hs
          refine ⟨x', r1, ?_, ?_⟩
          · rw [← r2]
            simp (disch := omega) only [fX4_holderIn_j45, fX4_holderIn_j46, a0, a1, cl, ix_nI, s_eq_t, s_eq_f, s_le_f, if_true, if_false, gd_t, nI_a1]
          · rw [← r3]
            simp (disch := omega) only [nI_lit 4, nI_lit 2, nI_lit 3, nI_lit 1, pk_mul, nI_add, a4, a5, cl, ix_nI, s_eq_t, s_eq_f, s_le_f, if_true, if_false, gd_t, show 4 * (i + 1) = 4 * i + 4 by omega]
      · obtain ⟨x', r1, r2, r3⟩ := ih (i + 1) l x s (by omega) (by omega) hx hl hs
        refine ⟨x', r1, ?_, ?_⟩
        · rw [← r2]
          simp (disch := omega) only [fX4_holderIn_j45, fX4_holderIn_j46, a0, cl, ix_nI, s_eq_t, s_eq_f, s_le_f, if_true, if_false, gd_t, nI_a1]
        · rw [← r3]
          simp (disch := omega) only [nI_lit 4, nI_lit 2, nI_lit 3, nI_lit 1, pk_mul, nI_add, a4, cl, ix_nI, s_eq_f, s_le_f, if_true, if_false, gd_t, show 4 * (i + 1) = 4 * i + 4 by omega]
theorem Q_owner {S : St} {n nb : Nat} {H : Nat → Nat → Nat} (h : IvH S n nb H) (hnb : nb ≤ 12) (F b yr : Nat) (hF : 1000 ≤ F) (hb : b < 1000) (hyr : yr ≤ 200) : ∃ x, VR 0 x ∧ fX4_ownerOf F S (nI b) (nI yr) = some x ∧ fX12_heldBy F S (nI b) (nI yr) 0 = some x := by
  obtain ⟨x, r1, r2, r3⟩ := L_held h hnb F b yr 0 (by omega) hb hyr F 0 0 (-1) (-1) (by omega) (by have := h.1; omega) ⟨0, rfl, fun _ => by omega, fun q => by omega⟩ (by omega) (Or.inr ⟨rfl, rfl⟩)
  have r2 : fX4_holderIn_L10 F S (nI b) 0 (nI yr) F (-1) 0 0 = some x := r2
  have r3 : fX12_heldBy_L17 F S (nI b) (nI yr) 0 F (-1) (-1) 0 = some x := r3
  exact ⟨x, r1, by simp only [fX4_ownerOf, fX4_holderIn, r2, cal_s], by simp only [fX12_heldBy, fX12_heldBy_j12, if_true, r3]⟩
theorem Q_users {S : St} {n nb : Nat} {H : Nat → Nat → Nat} (h : IvH S n nb H) (hnb : nb ≤ 12) (F b yr : Nat) (hF : 1000 ≤ F) (hb : b < 1000) (hyr : yr ≤ 200) : ∃ k : Nat, k < 1024 ∧ fX4_usersOf F S (nI b) (nI yr) = some (nI k) ∧ fX12_heldBy F S (nI b) (nI yr) 1 = some (nI k) := by
  obtain ⟨x, r1, r2, r3⟩ := L_held h hnb F b yr 1 (by omega) hb hyr F 0 0 0 (-1) (by omega) (by have := h.1; omega) ⟨1, by decide, fun q => by omega, fun q => by omega⟩ (by omega) (Or.inr ⟨rfl, rfl⟩)
  have r2 : fX4_holderIn_L10 F S (nI b) 1 (nI yr) F 0 0 0 = some x := r2
  have r3 : fX12_heldBy_L17 F S (nI b) (nI yr) 1 F (-1) 0 0 = some x := r3
  obtain ⟨k, e, -, hk⟩ := r1
  have hk := hk rfl
  have e2 : x = nI (k - 1) := by rw [e]; have := nI_subn (a := k) (b := 1) (by omega); exact this
  refine ⟨k - 1, by omega, ?_, ?_⟩
  · rw [← e2]; simp only [fX4_usersOf, fX4_holderIn, r2, cal_s]
  · rw [← e2]; simp only [fX12_heldBy, fX12_heldBy_j12, if_neg (show ¬ ((1 : Int32) = 0) by decide), r3]
