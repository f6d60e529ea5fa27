theorem Q_hear {S : St} {n np : Nat} {C P : Nat → Nat → Nat} (h : IvC S n np C) (hp : IvP S np P) (F : Nat) (hF : 1000 ≤ F) (p1 p2 : Int32) : ∃ (r : Int32) (S1 S2 : St), fX11_hear F S p1 p2 = some (r, S1) ∧ fX12_hear F S1 p1 p2 = some (r, S2) ∧ Ch 99 S S2 ∧ gC S1 = gC S ∧ gC S2 = gC S := by
  have hne : ¬ (1 : Int32) = 0 := by decide
  have h9 := h.1
  have bad : fX11_hear F S p1 p2 = some (-1, S) → fX12_hear F S p1 p2 = some (-1, S) → ∃ (r : Int32) (S1 S2 : St), fX11_hear F S p1 p2 = some (r, S1) ∧ fX12_hear F S1 p1 p2 = some (r, S2) ∧ Ch 99 S S2 ∧ gC S1 = gC S ∧ gC S2 = gC S := fun a b => ⟨-1, S, S, a, b, Ch.rf _ _, rfl, rfl⟩
  rcases a_year p1 with ⟨c1, m1⟩ | ⟨y, rfl, u1, c1, m1⟩
  · exact bad (by simp only [fX11_hear, c1, cal_s]; rfl) (by simp only [fX12_hear, m1, cal_s]; rfl)
  by_cases e3 : (-1) ≤ p2
  · obtain ⟨A, hA⟩ : ∃ A, A = 2 ^ n - 1 := ⟨_, rfl⟩
    have hp2 := Nat.two_pow_pos n
    have a1 : A < 2 ^ n := by omega
    have hA5 : A < 512 := Nat.lt_of_lt_of_le a1 (pow9 h9)
    have S0c : Ch 99 S (pI (pI S 2 0 4 (nI y)) 2 0 2 (nI A)) := ((Ch.rf 99 S).pI _ (Or.inr rfl)).pI _ (Or.inr rfl)
    have h0 : IvC (pI (pI S 2 0 4 (nI y)) 2 0 2 (nI A)) n np C := h.ch S0c (by decide)
    have hp0 : IvP (pI (pI S 2 0 4 (nI y)) 2 0 2 (nI A)) np P := hp.ch S0c (by decide)
    have w100 : ∀ i, i < n → C 1 i ≤ 100 := fun i hi => by
      obtain ⟨q0, q1, q2, q3, q4, q5, q6, q7, q8, q9, q10, q11, x0, x1, x2⟩ := h.2.2.2 i hi
      exact x1.2
    have hO : ∀ S', OffK 19 (pI (pI S 2 0 4 (nI y)) 2 0 2 (nI A)) S' → OC_h n np C (prH C P y) A S' := fun S' o => by
      have hC := h0.off o own19
      have hP := hp0.off o own19
      refine ⟨hC, by rw [o.2.1, gI_ps], fun i x hi hx hx2 => ⟨price_h hC hP u1 (by rw [o.2.1, gI_pk _ _ _ _ _ _ (show 4 ≠ 2 by decide), gI_ps]) hi hx hx2, ?_⟩⟩
      have := prH_le (C := C) (P := P) (y := y) (i := i) (x := x)
      have := w100 i hi
      omega
    have hcw : ∀ i s, i < n → co_h n C (prH C P y) i s ≤ C 1 i := fun i s _ => prH_le
    have hcc : ∀ i s, i < n → sub s A → fre A s i = true → co_h n C (prH C P y) i s ≤ 100 := fun i s hi _ _ => Nat.le_trans (hcw i s hi) (w100 i hi)
    have bd : ∀ s, sub s A → rs A n (co_h n C (prH C P y)) s < 1000000000 := fun s hs => by
      have b := rs_bd (K := 100) a1 hA5 (by omega) hcc (A + 1) s hs (by omega)
      have b2 : 100 * (A - s) ≤ 100 * 511 := Nat.mul_le_mul_left _ (by omega)
      omega
    have hW : ∀ s, sub s A → rs A n (co_h n C (prH C P y)) s ≤ Wm A n C s := fun s hs => rs_W (K := 100) a1 h9 hA5 (by omega) hcc hcw (A + 1) s hs (by omega)
    obtain ⟨S1, r1, r2, r3⟩ := L_arr_h hO F hF a1 hA5 (fun S_6 => gd (ix 0 512) <| some (gA S_6 19 0 (0 : Int32).toNatClampNeg, S_6)) F (A + 1) _ (OffK.rf _ _) (Nat.le_refl _) (by omega) (fun s hs q => by have := sub_le hs; omega)
    have ch1 : Ch 99 S S1 := S0c.trans (r2.ch own19)
    have g1 : gC S1 = gC S := r2.2.2
    have hC1 : IvC S1 n np C := h.ch ch1 (by decide)
    have hP1 : IvP S1 np P := hp.ch ch1 (by decide)
    have ev : ∀ X, gI X 0 0 6 = nI n → fX0_everyOne X = some (nI A) := fun X hX => by rw [hA]; exact every_s X hX h9
    have cls : fX2_arrangeFrom F S (nI y) = some (nI (rs A n (co_h n C (prH C P y)) 0), S1) := by
      have g6 : gI (pI S 2 0 4 (nI y)) 0 0 6 = nI n := by rw [gI_pc _ _ _ _ _ _ (show 0 ≠ 2 by decide)]; exact h.2.1
      unfold fX2_arrangeFrom fX5_arrange_h
      rw [bnd_e, ev _ g6, cal_s, cal_s, bnd_e, fa_and, Nat.and_self, gI_ps, bnd_e]
      have e1 : nI (A + 1) - 1 = nI A := nI_subn (a := A + 1) (b := 1) (by omega)
      rw [e1] at r1
      have r1' := r1
      rw [show ix 0 512 = true by decide, gd_t, show (0 : Int32).toNatClampNeg = 0 by decide, r3 0 (sub_0 A)] at r1'
      rw [show (fX5_arrange_h_L18 F (fun S_6 => gd (ix 0 512) <| some (gA S_6 19 0 (0 : Int32).toNatClampNeg, S_6)) F (nI A) (pI (pI S 2 0 4 (nI y)) 2 0 2 (nI A))) = some (nI (rs A n (co_h n C (prH C P y)) 0), S1) from r1', cal_s]
    have o2 : OffK 79 S1 (pA S1 79 0 A (nI 0)) := (OffK.rf 79 S1).pA 0 A _
    have WA : Wm A n C A = 0 := by
      have e : mis A A = 0 := (sub_mis (by omega)).mpr (fun _ q => q)
      have z : ∀ k, sumM (C 1) 0 k = 0 := fun k => by
        induction k with
        | zero => rfl
        | succ k ih => rw [sumM_s, ih, Nat.zero_testBit]; rfl
      unfold Wm
      rw [e, z]
    have W0 : Wm A n C 0 = sumM (C 1) (2 ^ n - 1) n := by
      refine sumM_cg (fun j hj => ?_)
      rw [mis_t _ _ (by omega), Nat.zero_testBit, hA]; simp
    obtain ⟨S2, t1, t2, t3⟩ := L_mh2 (hC1.off o2 own79) (hP1.off o2 own79) F hF hA hA5 u1 p2 (fun S_11 => if 0 ≤ p2 then if p2 < (gI S_11 11 0 23) then fX12_hear_L169 F S_11 (nI y) p2 F 0 (-4) 0 else some ((-4), S_11) else gd (ix 0 512) <| some (gA S_11 79 0 (0 : Int32).toNatClampNeg, S_11)) hcc hW F A _ (OffK.rf _ _) (Nat.le_refl _) (by omega) (fun s hs q => by
      have := sub_le hs
      have e : s = A := by omega
      subst e
      rw [gA_ps, rs_A, WA])
    have ch2 : Ch 99 S1 S2 := (o2.tr t2).ch own79
    have hC2 : IvC S2 n np C := hC1.ch ch2 (by decide)
    have hP2 : IvP S2 np P := hP1.ch ch2 (by decide)
    have g2 : gC S2 = gC S := (o2.tr t2).2.2.trans g1
    have shl : ((1 : Int32) <<< (nI n &&& 31)) - 1 = nI A := by rw [shl1 (by omega), hA]; exact nI_subn (a := 2 ^ n) (b := 1) (by omega)
    have mdl : ∀ X, (if 0 ≤ p2 then if p2 < (gI S2 11 0 23) then fX12_hear_L169 F S2 (nI y) p2 F 0 (-4) 0 else some ((-4), S2) else gd (ix 0 512) <| some (gA S2 79 0 (0 : Int32).toNatClampNeg, S2)) = X → fX12_hear F S1 (nI y) p2 = X := fun X hX => by
      simp only [fX12_hear, m1, cal_s, if_neg hne, if_pos e3, hC1.2.2.1, shl, bnd_e, ix_nI hA5 (by decide), gd_t, cl (show A < 2147483648 by omega)]
      exact Eq.trans t1 hX
    have hpc : pc10 A = n := by rw [hA]; exact pc_full ⟨n, by omega⟩
    have hWl : Wm A n C 0 ≤ 100 * n := sumM_le w100
    rcases m1_or e3 with ⟨q1, q2⟩ | ⟨q1, q2⟩
    · refine ⟨nI (Wm A n C 0 - rs A n (co_h n C (prH C P y)) 0), S1, S2, ?_, mdl _ ?_, ch1.trans ch2, g1, g2⟩
      · have aw : fX0_allWeights F S1 = some (nI (Wm A n C 0)) := by rw [W0]; exact L_allW hC1 F F 0 (by omega) (by omega)
        simp only [fX11_hear, c1, cal_s, if_neg hne, if_pos e3, cls, if_pos q1, aw, nI_subn (hW 0 (sub_0 A))]
      · rw [if_neg q2, show ix 0 512 = true by decide, gd_t, show (0 : Int32).toNatClampNeg = 0 by decide, t3 0 (sub_0 A)]
    · have p0 : 0 ≤ p2.toInt := by
        have := (t_le _ _).mp q2
        rw [show (0 : Int32).toInt = 0 by decide] at this; exact this
      have at1 := L_at_h (hO S1 r2) F hF a1 hA5 r3 bd p2 F 0 (Nat.zero_le _) (Nat.zero_le _) (by omega) (fun k' hk' => by omega)
      have at2 : fX5_claimAt_h F S1 p2 = _ := at1
      by_cases qq : p2.toInt < pc10 A
      · rw [if_pos ⟨qq, p0⟩] at at2
        obtain ⟨q, hq31, rfl⟩ : ∃ q : Nat, q < 2147483648 ∧ p2 = nI q := ⟨p2.toInt.toNat, by omega, (t_eq _ _).mpr (by rw [t_nI (by omega)]; omega)⟩
        rw [t_nI hq31] at qq at2
        have fin := L_mh4 (q := q) hC2 hP2 F hF hA hA5 u1 (by omega) hcc t3 hW F 0 (-4) (by omega) (by omega)
        refine ⟨ncode (nx A n (co_h n C (prH C P y)) (sq A n (co_h n C (prH C P y)) q)), S1, S2, ?_, mdl _ ?_, ch1.trans ch2, g1, g2⟩
        · simp only [fX11_hear, c1, cal_s, if_neg hne, if_pos e3, cls, if_neg q1, at2]; rfl
        · rw [if_pos q2, hC2.2.2.1, if_pos (c_lt (by omega) (by omega))]
          exact fin
      · rw [if_neg (fun z => qq z.1)] at at2
        have nlt : ¬ p2 < nI n := fun z => by
          have := (t_lt _ _).mp z
          rw [t_nI (by omega)] at this
          omega
        refine ⟨-4, S1, S2, ?_, mdl _ ?_, ch1.trans ch2, g1, g2⟩
        · simp only [fX11_hear, c1, cal_s, if_neg hne, if_pos e3, cls, if_neg q1, at2]
        · rw [if_pos q2, hC2.2.2.1, if_neg nlt]
  · exact bad (by simp only [fX11_hear, c1, cal_s, if_neg hne, if_neg e3]) (by simp only [fX12_hear, m1, cal_s, if_neg hne, if_neg e3])
