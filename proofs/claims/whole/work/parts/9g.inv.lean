/-! THE INVARIANT of both objects; every call keeps it and is answered alike -/
theorem IvC.mono {S : St} {n np np2 : Nat} {C : Nat → Nat → Nat} (h : IvC S n np C) (hn : np ≤ np2) : IvC S n np2 C := by
  obtain ⟨e0, h0, h1, hi⟩ := h
  refine ⟨e0, h0, h1, fun i hx => ?_⟩
  obtain ⟨q0, q1, q2, q3, q4, q5, q6, q7, q8, q9, q10, q11, x0, x1, x2, x3⟩ := hi i hx
  exact ⟨q0, q1, q2, q3, q4, q5, q6, q7, q8, q9, q10, q11, x0, x1, by omega, x3⟩
theorem IvY.mono {S : St} {n np np2 : Nat} {Y : Nat → Nat → Nat} (h : IvY S n np Y) (hn : np ≤ np2) : IvY S n np2 Y := by
  obtain ⟨e0, h0, h1, hi⟩ := h
  refine ⟨e0, h0, h1, fun i hx => ?_⟩
  obtain ⟨q0, q1, q2, q3, q4, q5, q6, q7, x0, x1, x2⟩ := hi i hx
  exact ⟨q0, q1, q2, q3, q4, q5, q6, q7, by omega, by omega, x2⟩
theorem IvH.mono {S : St} {n nb nb2 : Nat} {H : Nat → Nat → Nat} (h : IvH S n nb H) (hn : nb ≤ nb2) : IvH S n nb2 H := by
  obtain ⟨e0, h0, h1, hi⟩ := h
  refine ⟨e0, h0, h1, fun i hx => ?_⟩
  obtain ⟨q0, q1, q2, q3, q4, q5, q6, q7, x0, x1⟩ := hi i hx
  exact ⟨q0, q1, q2, q3, q4, q5, q6, q7, by omega, x1⟩
theorem IvD.mono {S : St} {n nb nb2 : Nat} {D : Nat → Nat → Nat} (h : IvD S n nb D) (hn : nb ≤ nb2) : IvD S n nb2 D := by
  obtain ⟨e0, h0, h1, hi⟩ := h
  refine ⟨e0, h0, h1, fun i hx => ?_⟩
  obtain ⟨q0, q1, q2, q3, q4, q5, x0, x1⟩ := hi i hx
  exact ⟨q0, q1, q2, q3, q4, q5, by omega, x1⟩
theorem IvK.mono {S : St} {n nb nb2 : Nat} {K : Nat → Nat → Nat} (h : IvK S n nb K) (hn : nb ≤ nb2) : IvK S n nb2 K := by
  obtain ⟨e0, h0, h1, hi⟩ := h
  refine ⟨e0, h0, h1, fun i hx => ?_⟩
  obtain ⟨q0, q1, q2, q3, q4, q5, x0, x1⟩ := hi i hx
  exact ⟨q0, q1, q2, q3, q4, q5, by omega, x1⟩
def Inv (S : St) : Prop := ∃ (ns nc np ny nb nh nd nk : Nat) (Z C P Y B H D K : Nat → Nat → Nat) (nv n ni : Nat → Nat) (V E : Nat → Nat → Nat → Nat) (Tx : Nat → Nat → Nat), CapI S ∧ IvS S ns Z ∧ IvC S nc np C ∧ IvP S np P ∧ IvY S ny np Y ∧ IvB S nb B ∧ IvH S nh nb H ∧ IvD S nd nb D ∧ IvK S nk nb K ∧ (∀ t, t < 2 → IvW S t (nv t) (V t)) ∧ (∀ t, t < 2 → IvX S t (n t) (Tx t)) ∧ ∀ t, t < 2 → IvI S t (ni t) (E t)
theorem CapI.eq {S S2 : St} (h : CapI S) (e : gC S2 = gC S) : CapI S2 := by unfold CapI; rw [e]; exact h
theorem Inv.sc {S S2 : St} (h : Inv S) (hc : Ch 99 S S2) (hC : CapI S2) : Inv S2 := by
  obtain ⟨ns, nc, np, ny, nb, nh, nd, nk, Z, C, P, Y, B, H, D, K, nv, n, ni, V, E, Tx, _, h0, h1, h2, h3, h4, h5, h6, h7, h8, h9, h10⟩ := h
  exact ⟨ns, nc, np, ny, nb, nh, nd, nk, Z, C, P, Y, B, H, D, K, nv, n, ni, V, E, Tx, hC, h0.ch hc (by decide), h1.ch hc (by decide), h2.ch hc (by decide), h3.ch hc (by decide), h4.ch hc (by decide), h5.ch hc (by decide), h6.ch hc (by decide), h7.ch hc (by decide), fun t ht => (h8 t ht).ch hc (by omega) ht, fun t ht => (h9 t ht).ch hc (by omega) ht, fun t ht => (h10 t ht).ch hc (by omega) ht⟩
theorem sL_0 {S : St} (h : Inv S) (F : Nat) (hF : 2000000000 ≤ F) (a1 a2 a3 a4 : Int32) (rec : St → Option LR) (hrec : ∀ S, Inv S → ∃ o, rec S = some o) : ∃ o, fL_0 F a1 a2 a3 a4 rec S = some o := by
  obtain ⟨ns, nc, np, ny, nb, nh, nd, nk, Z, C, P, Y, B, H, D, K, nv, n, ni, V, E, Tx, hC, h0, h1, h2, h3, h4, h5, h6, h7, h8, h9, h10⟩ := id h
  rcases a_tongue a1 with ⟨c1, m1⟩ | ⟨t, rfl, ut, c1, m1⟩
  · have e1 : fX11_book S a1 a2 a3 a4 = some (-1, S) := by unfold fX11_book; rw [c1, cal_s]; rfl
    have e2 : fX12_book S a1 a2 a3 a4 = some (-1, S) := by unfold fX12_book; rw [m1, cal_s]; rfl
    obtain ⟨o, ho⟩ := hrec _ (h)
    exact ⟨o, by simp only [fL_0, e1, e2, cal_s, eq_self, if_true]; exact ho⟩
  · obtain ⟨r, S1, S2, n2, V2, e1, e2, q1, q2, q3, q4⟩ := Q_book ut (h8 t ut) a2 a3 a4
    have hw : ∀ u, u < 2 → IvW S2 u ((fun u => if u = t then n2 else nv u) u) ((fun u => if u = t then V2 else V u) u) := fun u hu => by
      by_cases e : u = t
      · subst e; simp only [if_true]; exact q1
      · simp only [if_neg e]; exact (h8 u hu).ch q2 (by omega) hu
    obtain ⟨o, ho⟩ := hrec _ (⟨ns, nc, np, ny, nb, nh, nd, nk, Z, C, P, Y, B, H, D, K, (fun u => if u = t then n2 else nv u), n, ni, (fun u => if u = t then V2 else V u), E, Tx, hC.eq q4, h0.ch q2 (by omega), h1.ch q2 (by omega), h2.ch q2 (by omega), h3.ch q2 (by omega), h4.ch q2 (by omega), h5.ch q2 (by omega), h6.ch q2 (by omega), h7.ch q2 (by omega), hw, fun t ht => (h9 t ht).ch q2 (by omega) ht, fun t ht => (h10 t ht).ch q2 (by omega) ht⟩)
    exact ⟨o, by simp only [fL_0, e1, e2, cal_s, eq_self, if_true]; exact ho⟩
theorem sL_1 {S : St} (h : Inv S) (F : Nat) (hF : 2000000000 ≤ F) (a1 a2 a3 a4 : Int32) (rec : St → Option LR) (hrec : ∀ S, Inv S → ∃ o, rec S = some o) : ∃ o, fL_1 F a1 a2 a3 a4 rec S = some o := by
  obtain ⟨ns, nc, np, ny, nb, nh, nd, nk, Z, C, P, Y, B, H, D, K, nv, n, ni, V, E, Tx, hC, h0, h1, h2, h3, h4, h5, h6, h7, h8, h9, h10⟩ := id h
  rcases a_tongue a1 with ⟨c1, m1⟩ | ⟨t, rfl, ut, c1, m1⟩
  · have e1 : fX11_write F S a1 a2 ((a3.toInt64 <<< ((32 : Int32).toInt64 &&& 63)) ||| (a4.toInt64 &&& 4294967295)) = some (-1, S) := by unfold fX11_write; rw [c1, cal_s]; rfl
    have e2 : fX12_write F S a1 a2 ((a3.toInt64 <<< ((32 : Int32).toInt64 &&& 63)) ||| (a4.toInt64 &&& 4294967295)) = some (-1, S) := by unfold fX12_write; rw [m1, cal_s]; rfl
    obtain ⟨o, ho⟩ := hrec _ (h)
    exact ⟨o, by simp only [fL_1, e1, e2, cal_s, eq_self, if_true]; exact ho⟩
  · obtain ⟨r, S1, S2, n2, V2, e1, e2, q1, q2, q3, q4⟩ := Q_write ut (h9 t ut) F (by omega) a2 ((a3.toInt64 <<< ((32 : Int32).toInt64 &&& 63)) ||| (a4.toInt64 &&& 4294967295))
    have hw : ∀ u, u < 2 → IvX S2 u ((fun u => if u = t then n2 else n u) u) ((fun u => if u = t then V2 else Tx u) u) := fun u hu => by
      by_cases e : u = t
      · subst e; simp only [if_true]; exact q1
      · simp only [if_neg e]; exact (h9 u hu).ch q2 (by omega) hu
    obtain ⟨o, ho⟩ := hrec _ (⟨ns, nc, np, ny, nb, nh, nd, nk, Z, C, P, Y, B, H, D, K, nv, (fun u => if u = t then n2 else n u), ni, V, E, (fun u => if u = t then V2 else Tx u), hC.eq q4, h0.ch q2 (by omega), h1.ch q2 (by omega), h2.ch q2 (by omega), h3.ch q2 (by omega), h4.ch q2 (by omega), h5.ch q2 (by omega), h6.ch q2 (by omega), h7.ch q2 (by omega), fun t ht => (h8 t ht).ch q2 (by omega) ht, hw, fun t ht => (h10 t ht).ch q2 (by omega) ht⟩)
    exact ⟨o, by simp only [fL_1, e1, e2, cal_s, eq_self, if_true]; exact ho⟩
theorem sL_2 {S : St} (h : Inv S) (F : Nat) (hF : 2000000000 ≤ F) (a1 : Int32) (rec : St → Option LR) (hrec : ∀ S, Inv S → ∃ o, rec S = some o) : ∃ o, fL_2 F a1 rec S = some o := by
  obtain ⟨ns, nc, np, ny, nb, nh, nd, nk, Z, C, P, Y, B, H, D, K, nv, n, ni, V, E, Tx, hC, h0, h1, h2, h3, h4, h5, h6, h7, h8, h9, h10⟩ := id h
  rcases a_tongue a1 with ⟨c1, m1⟩ | ⟨t, rfl, ut, c1, m1⟩
  · have e1 : fX11_wipe S a1 = some (-1, S) := by unfold fX11_wipe; rw [c1, cal_s]; rfl
    have e2 : fX12_wipe S a1 = some (-1, S) := by unfold fX12_wipe; rw [m1, cal_s]; rfl
    obtain ⟨o, ho⟩ := hrec _ (h)
    exact ⟨o, by simp only [fL_2, e1, e2, cal_s, eq_self, if_true]; exact ho⟩
  · obtain ⟨S1, S2, e1, e2, q1, q2, q3, q4⟩ := Q_wipe ut (h9 t ut)
    have hw : ∀ u, u < 2 → IvX S2 u ((fun u => if u = t then 0 else n u) u) (Tx u) := fun u hu => by
      by_cases e : u = t
      · subst e; simp only [if_true]; exact q1
      · simp only [if_neg e]; exact (h9 u hu).ch q2 (by omega) hu
    obtain ⟨o, ho⟩ := hrec _ (⟨ns, nc, np, ny, nb, nh, nd, nk, Z, C, P, Y, B, H, D, K, nv, (fun u => if u = t then 0 else n u), ni, V, E, Tx, hC.eq q4, h0.ch q2 (by omega), h1.ch q2 (by omega), h2.ch q2 (by omega), h3.ch q2 (by omega), h4.ch q2 (by omega), h5.ch q2 (by omega), h6.ch q2 (by omega), h7.ch q2 (by omega), fun t ht => (h8 t ht).ch q2 (by omega) ht, hw, fun t ht => (h10 t ht).ch q2 (by omega) ht⟩)
    exact ⟨o, by simp only [fL_2, e1, e2, cal_s, eq_self, if_true]; exact ho⟩
theorem sL_3 {S : St} (h : Inv S) (F : Nat) (hF : 2000000000 ≤ F) (a1 : Int32) (rec : St → Option LR) (hrec : ∀ S, Inv S → ∃ o, rec S = some o) : ∃ o, fL_3 F a1 rec S = some o := by
  obtain ⟨ns, nc, np, ny, nb, nh, nd, nk, Z, C, P, Y, B, H, D, K, nv, n, ni, V, E, Tx, hC, h0, h1, h2, h3, h4, h5, h6, h7, h8, h9, h10⟩ := id h
  obtain ⟨r, S1, S2, e1, e2, q2, q3, q4⟩ := Q_fault h9 F (by omega) a1
  obtain ⟨o, ho⟩ := hrec _ (h.sc q2 (hC.eq q4))
  exact ⟨o, by simp only [fL_3, e1, e2, cal_s, eq_self, if_true]; exact ho⟩
theorem sL_4 {S : St} (h : Inv S) (F : Nat) (hF : 2000000000 ≤ F) (a1 : Int32) (rec : St → Option LR) (hrec : ∀ S, Inv S → ∃ o, rec S = some o) : ∃ o, fL_4 F a1 rec S = some o := by
  obtain ⟨ns, nc, np, ny, nb, nh, nd, nk, Z, C, P, Y, B, H, D, K, nv, n, ni, V, E, Tx, hC, h0, h1, h2, h3, h4, h5, h6, h7, h8, h9, h10⟩ := id h
  obtain ⟨r, S1, S2, ni2, E2, kk, e1, e2, q1, q5, q2, q3, q4⟩ := Q_force h9 h10 F (by omega) a1
  obtain ⟨o, ho⟩ := hrec _ (⟨ns, nc, np, ny, nb, nh, nd, nk, Z, C, P, Y, B, H, D, K, nv, n, ni2, V, E2, Tx, hC.eq q4, h0.ch q2 (by omega), h1.ch q2 (by omega), h2.ch q2 (by omega), h3.ch q2 (by omega), h4.ch q2 (by omega), h5.ch q2 (by omega), h6.ch q2 (by omega), h7.ch q2 (by omega), fun t ht => (h8 t ht).ch q2 (by omega) ht, fun t ht => (h9 t ht).ch q2 (by omega) ht, q1⟩)
  exact ⟨o, by simp only [fL_4, e1, e2, cal_s, eq_self, if_true]; exact ho⟩
theorem sL_5 {S : St} (h : Inv S) (F : Nat) (hF : 2000000000 ≤ F) (a1 a2 a3 : Int32) (rec : St → Option LR) (hrec : ∀ S, Inv S → ∃ o, rec S = some o) : ∃ o, fL_5 F a1 a2 a3 rec S = some o := by
  obtain ⟨ns, nc, np, ny, nb, nh, nd, nk, Z, C, P, Y, B, H, D, K, nv, n, ni, V, E, Tx, hC, h0, h1, h2, h3, h4, h5, h6, h7, h8, h9, h10⟩ := id h
  obtain ⟨r, e1, e2⟩ := Q_means h8 h10 F (by omega) a1 a2 a3
  obtain ⟨o, ho⟩ := hrec _ (h)
  exact ⟨o, by simp only [fL_5, e1, e2, cal_s, eq_self, if_true]; exact ho⟩
theorem sL_6 {S : St} (h : Inv S) (F : Nat) (hF : 2000000000 ≤ F) (a1 a2 a3 a4 a5 : Int32) (rec : St → Option LR) (hrec : ∀ S, Inv S → ∃ o, rec S = some o) : ∃ o, fL_6 F a1 a2 a3 a4 a5 rec S = some o := by
  obtain ⟨ns, nc, np, ny, nb, nh, nd, nk, Z, C, P, Y, B, H, D, K, nv, n, ni, V, E, Tx, hC, h0, h1, h2, h3, h4, h5, h6, h7, h8, h9, h10⟩ := id h
  obtain ⟨r, S1, S2, e1, e2, q2, q3, q4⟩ := Q_let h8 h10 F (by omega) a1 a2 a3 a4 a5
  obtain ⟨o, ho⟩ := hrec _ (h.sc q2 (hC.eq q4))
  exact ⟨o, by simp only [fL_6, e1, e2, cal_s, eq_self, if_true]; exact ho⟩
theorem sL_7 {S : St} (h : Inv S) (F : Nat) (hF : 2000000000 ≤ F) (a1 a2 a3 a4 a5 : Int32) (rec : St → Option LR) (hrec : ∀ S, Inv S → ∃ o, rec S = some o) : ∃ o, fL_7 F a1 a2 a3 a4 a5 rec S = some o := by
  obtain ⟨ns, nc, np, ny, nb, nh, nd, nk, Z, C, P, Y, B, H, D, K, nv, n, ni, V, E, Tx, hC, h0, h1, h2, h3, h4, h5, h6, h7, h8, h9, h10⟩ := id h
  obtain ⟨r, S1, S2, e1, e2, q2, q3, q4⟩ := Q_why h8 h10 F (by omega) a1 a2 a3 a4 a5
  obtain ⟨o, ho⟩ := hrec _ (h.sc q2 (hC.eq q4))
  exact ⟨o, by simp only [fL_7, e1, e2, cal_s, eq_self, if_true]; exact ho⟩
theorem sL_8 {S : St} (h : Inv S) (F : Nat) (hF : 2000000000 ≤ F) (a1 a2 a3 : Int32) (rec : St → Option LR) (hrec : ∀ S, Inv S → ∃ o, rec S = some o) : ∃ o, fL_8 F a1 a2 a3 rec S = some o := by
  obtain ⟨ns, nc, np, ny, nb, nh, nd, nk, Z, C, P, Y, B, H, D, K, nv, n, ni, V, E, Tx, hC, h0, h1, h2, h3, h4, h5, h6, h7, h8, h9, h10⟩ := id h
  obtain ⟨r, S1, S2, e1, e2, q2, q3, q4⟩ := Q_unlike h8 h10 F (by omega) a1 a2 a3
  obtain ⟨o, ho⟩ := hrec _ (h.sc q2 (hC.eq q4))
  exact ⟨o, by simp only [fL_8, e1, e2, cal_s, eq_self, if_true]; exact ho⟩
theorem sL_9 {S : St} (h : Inv S) (F : Nat) (hF : 2000000000 ≤ F) (a1 a2 : Int32) (rec : St → Option LR) (hrec : ∀ S, Inv S → ∃ o, rec S = some o) : ∃ o, fL_9 F a1 a2 rec S = some o := by
  obtain ⟨ns, nc, np, ny, nb, nh, nd, nk, Z, C, P, Y, B, H, D, K, nv, n, ni, V, E, Tx, hC, h0, h1, h2, h3, h4, h5, h6, h7, h8, h9, h10⟩ := id h
  obtain ⟨r, S1, S2, e1, e2, q2, q3, q4⟩ := Q_least h8 h10 F (by omega) a1 a2
  obtain ⟨o, ho⟩ := hrec _ (h.sc q2 (hC.eq q4))
  exact ⟨o, by simp only [fL_9, e1, e2, cal_s, eq_self, if_true]; exact ho⟩
theorem sL_10 {S : St} (h : Inv S) (F : Nat) (hF : 2000000000 ≤ F) (a1 a2 a3 : Int32) (rec : St → Option LR) (hrec : ∀ S, Inv S → ∃ o, rec S = some o) : ∃ o, fL_10 F a1 a2 a3 rec S = some o := by
  obtain ⟨ns, nc, np, ny, nb, nh, nd, nk, Z, C, P, Y, B, H, D, K, nv, n, ni, V, E, Tx, hC, h0, h1, h2, h3, h4, h5, h6, h7, h8, h9, h10⟩ := id h
  obtain ⟨r, S1, S2, e1, e2, q2, q3, q4⟩ := Q_doneBy h8 h10 F (by omega) a1 a2 a3
  obtain ⟨o, ho⟩ := hrec _ (h.sc q2 (hC.eq q4))
  exact ⟨o, by simp only [fL_10, e1, e2, cal_s, eq_self, if_true]; exact ho⟩
theorem sL_11 {S : St} (h : Inv S) (F : Nat) (hF : 2000000000 ≤ F) (a1 a2 a3 : Int32) (rec : St → Option LR) (hrec : ∀ S, Inv S → ∃ o, rec S = some o) : ∃ o, fL_11 F a1 a2 a3 rec S = some o := by
  obtain ⟨ns, nc, np, ny, nb, nh, nd, nk, Z, C, P, Y, B, H, D, K, nv, n, ni, V, E, Tx, hC, h0, h1, h2, h3, h4, h5, h6, h7, h8, h9, h10⟩ := id h
  obtain ⟨r, S1, S2, n2, Z2, e1, e2, q1, q2, q3, q4, hle⟩ := Q_person h2 a1 a2 a3
  obtain ⟨o, ho⟩ := hrec _ (⟨ns, nc, n2, ny, nb, nh, nd, nk, Z, C, Z2, Y, B, H, D, K, nv, n, ni, V, E, Tx, hC.eq q4, h0.ch q2 (by decide), (h1.ch q2 (by decide)).mono hle, q1, (h3.ch q2 (by decide)).mono hle, h4.ch q2 (by decide), h5.ch q2 (by decide), h6.ch q2 (by decide), h7.ch q2 (by decide), fun t ht => (h8 t ht).ch q2 (by omega) ht, fun t ht => (h9 t ht).ch q2 (by omega) ht, fun t ht => (h10 t ht).ch q2 (by omega) ht⟩)
  exact ⟨o, by simp only [fL_11, e1, e2, cal_s, eq_self, if_true]; exact ho⟩
theorem sL_12 {S : St} (h : Inv S) (F : Nat) (hF : 2000000000 ≤ F) (a1 a2 : Int32) (rec : St → Option LR) (hrec : ∀ S, Inv S → ∃ o, rec S = some o) : ∃ o, fL_12 F a1 a2 rec S = some o := by
  obtain ⟨ns, nc, np, ny, nb, nh, nd, nk, Z, C, P, Y, B, H, D, K, nv, n, ni, V, E, Tx, hC, h0, h1, h2, h3, h4, h5, h6, h7, h8, h9, h10⟩ := id h
  obtain ⟨r, S1, S2, Z2, e1, e2, q1, q2, q3, q4⟩ := Q_die h2 a1 a2
  obtain ⟨o, ho⟩ := hrec _ (⟨ns, nc, np, ny, nb, nh, nd, nk, Z, C, Z2, Y, B, H, D, K, nv, n, ni, V, E, Tx, hC.eq q4, h0.ch q2 (by decide), h1.ch q2 (by decide), q1, h3.ch q2 (by decide), h4.ch q2 (by decide), h5.ch q2 (by decide), h6.ch q2 (by decide), h7.ch q2 (by decide), fun t ht => (h8 t ht).ch q2 (by omega) ht, fun t ht => (h9 t ht).ch q2 (by omega) ht, fun t ht => (h10 t ht).ch q2 (by omega) ht⟩)
  exact ⟨o, by simp only [fL_12, e1, e2, cal_s, eq_self, if_true]; exact ho⟩
theorem sL_13 {S : St} (h : Inv S) (F : Nat) (hF : 2000000000 ≤ F) (a1 a2 : Int32) (rec : St → Option LR) (hrec : ∀ S, Inv S → ∃ o, rec S = some o) : ∃ o, fL_13 F a1 a2 rec S = some o := by
  obtain ⟨ns, nc, np, ny, nb, nh, nd, nk, Z, C, P, Y, B, H, D, K, nv, n, ni, V, E, Tx, hC, h0, h1, h2, h3, h4, h5, h6, h7, h8, h9, h10⟩ := id h
  obtain ⟨r, S1, S2, Z2, e1, e2, q1, q2, q3, q4⟩ := Q_founder h2 F (by omega) a1 a2
  obtain ⟨o, ho⟩ := hrec _ (⟨ns, nc, np, ny, nb, nh, nd, nk, Z, C, Z2, Y, B, H, D, K, nv, n, ni, V, E, Tx, hC.eq q4, h0.ch q2 (by decide), h1.ch q2 (by decide), q1, h3.ch q2 (by decide), h4.ch q2 (by decide), h5.ch q2 (by decide), h6.ch q2 (by decide), h7.ch q2 (by decide), fun t ht => (h8 t ht).ch q2 (by omega) ht, fun t ht => (h9 t ht).ch q2 (by omega) ht, fun t ht => (h10 t ht).ch q2 (by omega) ht⟩)
  exact ⟨o, by simp only [fL_13, e1, e2, cal_s, eq_self, if_true]; exact ho⟩
theorem sL_14 {S : St} (h : Inv S) (F : Nat) (hF : 2000000000 ≤ F) (a1 a2 a3 a4 : Int32) (rec : St → Option LR) (hrec : ∀ S, Inv S → ∃ o, rec S = some o) : ∃ o, fL_14 F a1 a2 a3 a4 rec S = some o := by
  obtain ⟨ns, nc, np, ny, nb, nh, nd, nk, Z, C, P, Y, B, H, D, K, nv, n, ni, V, E, Tx, hC, h0, h1, h2, h3, h4, h5, h6, h7, h8, h9, h10⟩ := id h
  by_cases hz : a4 = 0
  · obtain ⟨r, S1, S2, n2, Z2, e1, e2, q1, q2, q3, q4⟩ := Q_say h3 h2 a1 a2 a3 0 (Or.inl rfl)
    obtain ⟨o, ho⟩ := hrec _ (⟨ns, nc, np, n2, nb, nh, nd, nk, Z, C, P, Z2, B, H, D, K, nv, n, ni, V, E, Tx, hC.eq q4, h0.ch q2 (by decide), h1.ch q2 (by decide), h2.ch q2 (by decide), q1, h4.ch q2 (by decide), h5.ch q2 (by decide), h6.ch q2 (by decide), h7.ch q2 (by decide), fun t ht => (h8 t ht).ch q2 (by omega) ht, fun t ht => (h9 t ht).ch q2 (by omega) ht, fun t ht => (h10 t ht).ch q2 (by omega) ht⟩)
    exact ⟨o, by simp only [fL_14, if_pos hz, e1, e2, cal_s, eq_self, if_true, if_false]; exact ho⟩
  · obtain ⟨r, S1, S2, n2, Z2, e1, e2, q1, q2, q3, q4⟩ := Q_say h3 h2 a1 a2 a3 1 (Or.inr rfl)
    obtain ⟨o, ho⟩ := hrec _ (⟨ns, nc, np, n2, nb, nh, nd, nk, Z, C, P, Z2, B, H, D, K, nv, n, ni, V, E, Tx, hC.eq q4, h0.ch q2 (by decide), h1.ch q2 (by decide), h2.ch q2 (by decide), q1, h4.ch q2 (by decide), h5.ch q2 (by decide), h6.ch q2 (by decide), h7.ch q2 (by decide), fun t ht => (h8 t ht).ch q2 (by omega) ht, fun t ht => (h9 t ht).ch q2 (by omega) ht, fun t ht => (h10 t ht).ch q2 (by omega) ht⟩)
    exact ⟨o, by simp only [fL_14, if_neg hz, e1, e2, cal_s, eq_self, if_true, if_false]; exact ho⟩
theorem sL_15 {S : St} (h : Inv S) (F : Nat) (hF : 2000000000 ≤ F) (a1 a2 : Int32) (rec : St → Option LR) (hrec : ∀ S, Inv S → ∃ o, rec S = some o) : ∃ o, fL_15 F a1 a2 rec S = some o := by
  obtain ⟨ns, nc, np, ny, nb, nh, nd, nk, Z, C, P, Y, B, H, D, K, nv, n, ni, V, E, Tx, hC, h0, h1, h2, h3, h4, h5, h6, h7, h8, h9, h10⟩ := id h
  obtain ⟨r, S2, e1, e2, q2, q4⟩ := Q_of h2 h3 F (by omega) a1 a2
  obtain ⟨o, ho⟩ := hrec _ (h.sc q2 (hC.eq q4))
  exact ⟨o, by simp only [fL_15, e1, e2, cal_s, eq_self, if_true]; exact ho⟩
theorem sL_16 {S : St} (h : Inv S) (F : Nat) (hF : 2000000000 ≤ F) (a1 a2 : Int32) (rec : St → Option LR) (hrec : ∀ S, Inv S → ∃ o, rec S = some o) : ∃ o, fL_16 F a1 a2 rec S = some o := by
  obtain ⟨ns, nc, np, ny, nb, nh, nd, nk, Z, C, P, Y, B, H, D, K, nv, n, ni, V, E, Tx, hC, h0, h1, h2, h3, h4, h5, h6, h7, h8, h9, h10⟩ := id h
  obtain ⟨r, e1, e2⟩ := Q_odds h2 h3 F (by omega) a1 a2
  obtain ⟨o, ho⟩ := hrec _ (h)
  exact ⟨o, by simp only [fL_16, e1, e2, cal_s, eq_self, if_true]; exact ho⟩
theorem sL_17 {S : St} (h : Inv S) (F : Nat) (hF : 2000000000 ≤ F) (a1 : Int32) (rec : St → Option LR) (hrec : ∀ S, Inv S → ∃ o, rec S = some o) : ∃ o, fL_17 F a1 rec S = some o := by
  obtain ⟨ns, nc, np, ny, nb, nh, nd, nk, Z, C, P, Y, B, H, D, K, nv, n, ni, V, E, Tx, hC, h0, h1, h2, h3, h4, h5, h6, h7, h8, h9, h10⟩ := id h
  obtain ⟨r, S1, S2, n2, Z2, e1, e2, q1, q2, q3, q4, hle⟩ := Q_block h4 a1
  obtain ⟨o, ho⟩ := hrec _ (⟨ns, nc, np, ny, n2, nh, nd, nk, Z, C, P, Y, Z2, H, D, K, nv, n, ni, V, E, Tx, hC.eq q4, h0.ch q2 (by decide), h1.ch q2 (by decide), h2.ch q2 (by decide), h3.ch q2 (by decide), q1, (h5.ch q2 (by decide)).mono hle, (h6.ch q2 (by decide)).mono hle, (h7.ch q2 (by decide)).mono hle, fun t ht => (h8 t ht).ch q2 (by omega) ht, fun t ht => (h9 t ht).ch q2 (by omega) ht, fun t ht => (h10 t ht).ch q2 (by omega) ht⟩)
  exact ⟨o, by simp only [fL_17, e1, e2, cal_s, eq_self, if_true]; exact ho⟩
theorem sL_18 {S : St} (h : Inv S) (F : Nat) (hF : 2000000000 ≤ F) (a1 a2 a3 : Int32) (rec : St → Option LR) (hrec : ∀ S, Inv S → ∃ o, rec S = some o) : ∃ o, fL_18 F a1 a2 a3 rec S = some o := by
  obtain ⟨ns, nc, np, ny, nb, nh, nd, nk, Z, C, P, Y, B, H, D, K, nv, n, ni, V, E, Tx, hC, h0, h1, h2, h3, h4, h5, h6, h7, h8, h9, h10⟩ := id h
  obtain ⟨r, S1, S2, n2, Z2, e1, e2, q1, q2, q3, q4⟩ := Q_paper h5 h4 a1 a2 a3
  obtain ⟨o, ho⟩ := hrec _ (⟨ns, nc, np, ny, nb, n2, nd, nk, Z, C, P, Y, B, Z2, D, K, nv, n, ni, V, E, Tx, hC.eq q4, h0.ch q2 (by decide), h1.ch q2 (by decide), h2.ch q2 (by decide), h3.ch q2 (by decide), h4.ch q2 (by decide), q1, h6.ch q2 (by decide), h7.ch q2 (by decide), fun t ht => (h8 t ht).ch q2 (by omega) ht, fun t ht => (h9 t ht).ch q2 (by omega) ht, fun t ht => (h10 t ht).ch q2 (by omega) ht⟩)
  exact ⟨o, by simp only [fL_18, e1, e2, cal_s, eq_self, if_true]; exact ho⟩
theorem sL_19 {S : St} (h : Inv S) (F : Nat) (hF : 2000000000 ≤ F) (a1 a2 a3 : Int32) (rec : St → Option LR) (hrec : ∀ S, Inv S → ∃ o, rec S = some o) : ∃ o, fL_19 F a1 a2 a3 rec S = some o := by
  obtain ⟨ns, nc, np, ny, nb, nh, nd, nk, Z, C, P, Y, B, H, D, K, nv, n, ni, V, E, Tx, hC, h0, h1, h2, h3, h4, h5, h6, h7, h8, h9, h10⟩ := id h
  obtain ⟨r, S1, S2, n2, Z2, e1, e2, q1, q2, q3, q4⟩ := Q_use h5 h4 a1 a2 a3
  obtain ⟨o, ho⟩ := hrec _ (⟨ns, nc, np, ny, nb, n2, nd, nk, Z, C, P, Y, B, Z2, D, K, nv, n, ni, V, E, Tx, hC.eq q4, h0.ch q2 (by decide), h1.ch q2 (by decide), h2.ch q2 (by decide), h3.ch q2 (by decide), h4.ch q2 (by decide), q1, h6.ch q2 (by decide), h7.ch q2 (by decide), fun t ht => (h8 t ht).ch q2 (by omega) ht, fun t ht => (h9 t ht).ch q2 (by omega) ht, fun t ht => (h10 t ht).ch q2 (by omega) ht⟩)
  exact ⟨o, by simp only [fL_19, e1, e2, cal_s, eq_self, if_true]; exact ho⟩
theorem sL_20 {S : St} (h : Inv S) (F : Nat) (hF : 2000000000 ≤ F) (a1 a2 a3 : Int32) (rec : St → Option LR) (hrec : ∀ S, Inv S → ∃ o, rec S = some o) : ∃ o, fL_20 F a1 a2 a3 rec S = some o := by
  obtain ⟨ns, nc, np, ny, nb, nh, nd, nk, Z, C, P, Y, B, H, D, K, nv, n, ni, V, E, Tx, hC, h0, h1, h2, h3, h4, h5, h6, h7, h8, h9, h10⟩ := id h
  obtain ⟨r, e1, e2⟩ := Q_holds h5 h4 F (by omega) a1 a2 a3
  obtain ⟨o, ho⟩ := hrec _ (h)
  exact ⟨o, by simp only [fL_20, e1, e2, cal_s, eq_self, if_true]; exact ho⟩
theorem sL_21 {S : St} (h : Inv S) (F : Nat) (hF : 2000000000 ≤ F) (a1 a2 a3 a4 : Int32) (rec : St → Option LR) (hrec : ∀ S, Inv S → ∃ o, rec S = some o) : ∃ o, fL_21 F a1 a2 a3 a4 rec S = some o := by
  obtain ⟨ns, nc, np, ny, nb, nh, nd, nk, Z, C, P, Y, B, H, D, K, nv, n, ni, V, E, Tx, hC, h0, h1, h2, h3, h4, h5, h6, h7, h8, h9, h10⟩ := id h
  obtain ⟨r, S1, S2, n2, Z2, e1, e2, q1, q2, q3, q4⟩ := Q_deed h6 h4 a1 a2 a3 a4
  obtain ⟨o, ho⟩ := hrec _ (⟨ns, nc, np, ny, nb, nh, n2, nk, Z, C, P, Y, B, H, Z2, K, nv, n, ni, V, E, Tx, hC.eq q4, h0.ch q2 (by decide), h1.ch q2 (by decide), h2.ch q2 (by decide), h3.ch q2 (by decide), h4.ch q2 (by decide), h5.ch q2 (by decide), q1, h7.ch q2 (by decide), fun t ht => (h8 t ht).ch q2 (by omega) ht, fun t ht => (h9 t ht).ch q2 (by omega) ht, fun t ht => (h10 t ht).ch q2 (by omega) ht⟩)
  exact ⟨o, by simp only [fL_21, e1, e2, cal_s, eq_self, if_true]; exact ho⟩
theorem sL_22 {S : St} (h : Inv S) (F : Nat) (hF : 2000000000 ≤ F) (a1 : Int32) (rec : St → Option LR) (hrec : ∀ S, Inv S → ∃ o, rec S = some o) : ∃ o, fL_22 F a1 rec S = some o := by
  obtain ⟨ns, nc, np, ny, nb, nh, nd, nk, Z, C, P, Y, B, H, D, K, nv, n, ni, V, E, Tx, hC, h0, h1, h2, h3, h4, h5, h6, h7, h8, h9, h10⟩ := id h
  obtain ⟨r, e1, e2⟩ := Q_could h5 h4.1 h6 F (by omega) a1
  obtain ⟨o, ho⟩ := hrec _ (h)
  exact ⟨o, by simp only [fL_22, e1, e2, cal_s, eq_self, if_true]; exact ho⟩
theorem sL_23 {S : St} (h : Inv S) (F : Nat) (hF : 2000000000 ≤ F) (a1 : Int32) (rec : St → Option LR) (hrec : ∀ S, Inv S → ∃ o, rec S = some o) : ∃ o, fL_23 F a1 rec S = some o := by
  obtain ⟨ns, nc, np, ny, nb, nh, nd, nk, Z, C, P, Y, B, H, D, K, nv, n, ni, V, E, Tx, hC, h0, h1, h2, h3, h4, h5, h6, h7, h8, h9, h10⟩ := id h
  obtain ⟨r, e1, e2⟩ := Q_twice h6 h4 F (by omega) a1
  obtain ⟨o, ho⟩ := hrec _ (h)
  exact ⟨o, by simp only [fL_23, e1, e2, cal_s, eq_self, if_true]; exact ho⟩
theorem sL_24 {S : St} (h : Inv S) (F : Nat) (hF : 2000000000 ≤ F) (a1 a2 a3 : Int32) (rec : St → Option LR) (hrec : ∀ S, Inv S → ∃ o, rec S = some o) : ∃ o, fL_24 F a1 a2 a3 rec S = some o := by
  obtain ⟨ns, nc, np, ny, nb, nh, nd, nk, Z, C, P, Y, B, H, D, K, nv, n, ni, V, E, Tx, hC, h0, h1, h2, h3, h4, h5, h6, h7, h8, h9, h10⟩ := id h
  obtain ⟨r, S1, S2, n2, Z2, e1, e2, q1, q2, q3, q4⟩ := Q_take h7 h4 a1 a2 a3
  obtain ⟨o, ho⟩ := hrec _ (⟨ns, nc, np, ny, nb, nh, nd, n2, Z, C, P, Y, B, H, D, Z2, nv, n, ni, V, E, Tx, hC.eq q4, h0.ch q2 (by decide), h1.ch q2 (by decide), h2.ch q2 (by decide), h3.ch q2 (by decide), h4.ch q2 (by decide), h5.ch q2 (by decide), h6.ch q2 (by decide), q1, fun t ht => (h8 t ht).ch q2 (by omega) ht, fun t ht => (h9 t ht).ch q2 (by omega) ht, fun t ht => (h10 t ht).ch q2 (by omega) ht⟩)
  exact ⟨o, by simp only [fL_24, e1, e2, cal_s, eq_self, if_true]; exact ho⟩
theorem sL_25 {S : St} (h : Inv S) (F : Nat) (hF : 2000000000 ≤ F) (a1 : Int32) (rec : St → Option LR) (hrec : ∀ S, Inv S → ∃ o, rec S = some o) : ∃ o, fL_25 F a1 rec S = some o := by
  obtain ⟨ns, nc, np, ny, nb, nh, nd, nk, Z, C, P, Y, B, H, D, K, nv, n, ni, V, E, Tx, hC, h0, h1, h2, h3, h4, h5, h6, h7, h8, h9, h10⟩ := id h
  obtain ⟨r, e1, e2⟩ := Q_wronged h5 h4.1 h7 F (by omega) a1
  obtain ⟨o, ho⟩ := hrec _ (h)
  exact ⟨o, by simp only [fL_25, e1, e2, cal_s, eq_self, if_true]; exact ho⟩
theorem sL_26 {S : St} (h : Inv S) (F : Nat) (hF : 2000000000 ≤ F) (a1 a2 a3 : Int32) (rec : St → Option LR) (hrec : ∀ S, Inv S → ∃ o, rec S = some o) : ∃ o, fL_26 F a1 a2 a3 rec S = some o := by
  obtain ⟨ns, nc, np, ny, nb, nh, nd, nk, Z, C, P, Y, B, H, D, K, nv, n, ni, V, E, Tx, hC, h0, h1, h2, h3, h4, h5, h6, h7, h8, h9, h10⟩ := id h
  obtain ⟨r, S1, S2, B2, e1, e2, q1, q2, q3, q4⟩ := Q_shares h2 h4 F (by omega) a1 a2 a3
  obtain ⟨o, ho⟩ := hrec _ (⟨ns, nc, np, ny, nb, nh, nd, nk, Z, C, P, Y, B2, H, D, K, nv, n, ni, V, E, Tx, hC.eq q4, h0.ch q2 (by decide), h1.ch q2 (by decide), h2.ch q2 (by decide), h3.ch q2 (by decide), q1, h5.ch q2 (by decide), h6.ch q2 (by decide), h7.ch q2 (by decide), fun t ht => (h8 t ht).ch q2 (by omega) ht, fun t ht => (h9 t ht).ch q2 (by omega) ht, fun t ht => (h10 t ht).ch q2 (by omega) ht⟩)
  exact ⟨o, by simp only [fL_26, e1, e2, cal_s, eq_self, if_true]; exact ho⟩
theorem sL_27 {S : St} (h : Inv S) (F : Nat) (hF : 2000000000 ≤ F) (a1 a2 a3 : Int32) (rec : St → Option LR) (hrec : ∀ S, Inv S → ∃ o, rec S = some o) : ∃ o, fL_27 F a1 a2 a3 rec S = some o := by
  obtain ⟨ns, nc, np, ny, nb, nh, nd, nk, Z, C, P, Y, B, H, D, K, nv, n, ni, V, E, Tx, hC, h0, h1, h2, h3, h4, h5, h6, h7, h8, h9, h10⟩ := id h
  obtain ⟨r, S1, S2, e1, e2, q2, q3, q4, q5⟩ := Q_share h2 h4 hC F hF a1 a2 a3
  have z : lg_cmp r r = 0 := (lg_eq0 r r).mpr rfl
  obtain ⟨o, ho⟩ := hrec _ (h.sc q2 (q5.eq q4))
  exact ⟨o, by simp only [fL_27, e1, e2, cal_s, eq_self, if_true, z]; exact ho⟩
theorem sL_28 {S : St} (h : Inv S) (F : Nat) (hF : 2000000000 ≤ F) (a1 a2 : Int32) (rec : St → Option LR) (hrec : ∀ S, Inv S → ∃ o, rec S = some o) : ∃ o, fL_28 F a1 a2 rec S = some o := by
  obtain ⟨ns, nc, np, ny, nb, nh, nd, nk, Z, C, P, Y, B, H, D, K, nv, n, ni, V, E, Tx, hC, h0, h1, h2, h3, h4, h5, h6, h7, h8, h9, h10⟩ := id h
  obtain ⟨r, S1, S2, e1, e2, q2, q3, q4, q5⟩ := Q_small h2 h4 hC F hF a1 a2
  obtain ⟨o, ho⟩ := hrec _ (h.sc q2 (q5.eq q4))
  exact ⟨o, by simp only [fL_28, e1, e2, cal_s, eq_self, if_true]; exact ho⟩
theorem sL_29 {S : St} (h : Inv S) (F : Nat) (hF : 2000000000 ≤ F) (a1 a2 a3 a4 a5 a6 : Int32) (rec : St → Option LR) (hrec : ∀ S, Inv S → ∃ o, rec S = some o) : ∃ o, fL_29 F a1 a2 a3 a4 a5 a6 rec S = some o := by
  obtain ⟨ns, nc, np, ny, nb, nh, nd, nk, Z, C, P, Y, B, H, D, K, nv, n, ni, V, E, Tx, hC, h0, h1, h2, h3, h4, h5, h6, h7, h8, h9, h10⟩ := id h
  obtain ⟨r, S1, S2, n2, Z2, e1, e2, q1, q2, q3, q4⟩ := Q_claim h1 h2 a1 a2 a3 a4 a5 a6
  obtain ⟨o, ho⟩ := hrec _ (⟨ns, n2, np, ny, nb, nh, nd, nk, Z, Z2, P, Y, B, H, D, K, nv, n, ni, V, E, Tx, hC.eq q4, h0.ch q2 (by decide), q1, h2.ch q2 (by decide), h3.ch q2 (by decide), h4.ch q2 (by decide), h5.ch q2 (by decide), h6.ch q2 (by decide), h7.ch q2 (by decide), fun t ht => (h8 t ht).ch q2 (by omega) ht, fun t ht => (h9 t ht).ch q2 (by omega) ht, fun t ht => (h10 t ht).ch q2 (by omega) ht⟩)
  exact ⟨o, by simp only [fL_29, e1, e2, cal_s, eq_self, if_true]; exact ho⟩
theorem sL_30 {S : St} (h : Inv S) (F : Nat) (hF : 2000000000 ≤ F) (a1 : Int32) (rec : St → Option LR) (hrec : ∀ S, Inv S → ∃ o, rec S = some o) : ∃ o, fL_30 F a1 rec S = some o := by
  obtain ⟨ns, nc, np, ny, nb, nh, nd, nk, Z, C, P, Y, B, H, D, K, nv, n, ni, V, E, Tx, hC, h0, h1, h2, h3, h4, h5, h6, h7, h8, h9, h10⟩ := id h
  obtain ⟨r, e1, e2⟩ := Q_founded h1 F (by omega) a1
  obtain ⟨o, ho⟩ := hrec _ (h)
  exact ⟨o, by simp only [fL_30, e1, e2, cal_s, eq_self, if_true]; exact ho⟩
theorem sL_31 {S : St} (h : Inv S) (F : Nat) (hF : 2000000000 ≤ F) (a1 a2 : Int32) (rec : St → Option LR) (hrec : ∀ S, Inv S → ∃ o, rec S = some o) : ∃ o, fL_31 F a1 a2 rec S = some o := by
  obtain ⟨ns, nc, np, ny, nb, nh, nd, nk, Z, C, P, Y, B, H, D, K, nv, n, ni, V, E, Tx, hC, h0, h1, h2, h3, h4, h5, h6, h7, h8, h9, h10⟩ := id h
  obtain ⟨r, e1, e2⟩ := Q_falls h1 F (by omega) a1 a2
  obtain ⟨o, ho⟩ := hrec _ (h)
  exact ⟨o, by simp only [fL_31, e1, e2, cal_s, eq_self, if_true]; exact ho⟩
theorem sL_32 {S : St} (h : Inv S) (F : Nat) (hF : 2000000000 ≤ F) (a1 a2 : Int32) (rec : St → Option LR) (hrec : ∀ S, Inv S → ∃ o, rec S = some o) : ∃ o, fL_32 F a1 a2 rec S = some o := by
  obtain ⟨ns, nc, np, ny, nb, nh, nd, nk, Z, C, P, Y, B, H, D, K, nv, n, ni, V, E, Tx, hC, h0, h1, h2, h3, h4, h5, h6, h7, h8, h9, h10⟩ := id h
  obtain ⟨r, S1, S2, e1, e2, q2, q3, q4⟩ := Q_hear h1 h2 F (by omega) a1 a2
  obtain ⟨o, ho⟩ := hrec _ (h.sc q2 (hC.eq q4))
  exact ⟨o, by simp only [fL_32, e1, e2, cal_s, eq_self, if_true]; exact ho⟩
theorem sL_33 {S : St} (h : Inv S) (F : Nat) (hF : 2000000000 ≤ F) (a1 a2 a3 : Int32) (rec : St → Option LR) (hrec : ∀ S, Inv S → ∃ o, rec S = some o) : ∃ o, fL_33 F a1 a2 a3 rec S = some o := by
  obtain ⟨ns, nc, np, ny, nb, nh, nd, nk, Z, C, P, Y, B, H, D, K, nv, n, ni, V, E, Tx, hC, h0, h1, h2, h3, h4, h5, h6, h7, h8, h9, h10⟩ := id h
  by_cases hz : a3 = 0
  · obtain ⟨r, e1, e2⟩ := Q_left h5 h4 h7 h1 F (by omega) a1 a2 0
    obtain ⟨o, ho⟩ := hrec _ h
    exact ⟨o, by simp only [fL_33, if_pos hz, e1, e2, cal_s, eq_self, if_true, if_false]; exact ho⟩
  · obtain ⟨r, e1, e2⟩ := Q_left h5 h4 h7 h1 F (by omega) a1 a2 1
    obtain ⟨o, ho⟩ := hrec _ h
    exact ⟨o, by simp only [fL_33, if_neg hz, e1, e2, cal_s, eq_self, if_true, if_false]; exact ho⟩
theorem sL_34 {S : St} (h : Inv S) (F : Nat) (hF : 2000000000 ≤ F) (a1 a2 : Int32) (rec : St → Option LR) (hrec : ∀ S, Inv S → ∃ o, rec S = some o) : ∃ o, fL_34 F a1 a2 rec S = some o := by
  obtain ⟨ns, nc, np, ny, nb, nh, nd, nk, Z, C, P, Y, B, H, D, K, nv, n, ni, V, E, Tx, hC, h0, h1, h2, h3, h4, h5, h6, h7, h8, h9, h10⟩ := id h
  obtain ⟨r, S2, e1, e2, q2, q4⟩ := Q_cousins h2 F (by omega) a1 a2
  obtain ⟨o, ho⟩ := hrec _ (h.sc q2 (hC.eq q4))
  exact ⟨o, by simp only [fL_34, e1, e2, cal_s, eq_self, if_true]; exact ho⟩
theorem sL_35 {S : St} (h : Inv S) (F : Nat) (hF : 2000000000 ≤ F) (a1 a2 a3 : Int32) (rec : St → Option LR) (hrec : ∀ S, Inv S → ∃ o, rec S = some o) : ∃ o, fL_35 F a1 a2 a3 rec S = some o := by
  obtain ⟨ns, nc, np, ny, nb, nh, nd, nk, Z, C, P, Y, B, H, D, K, nv, n, ni, V, E, Tx, hC, h0, h1, h2, h3, h4, h5, h6, h7, h8, h9, h10⟩ := id h
  obtain ⟨r, S2, e1, e2, q2, q4⟩ := Q_settled h2 F (by omega) a1 a2 a3
  obtain ⟨o, ho⟩ := hrec _ (h.sc q2 (hC.eq q4))
  exact ⟨o, by simp only [fL_35, e1, e2, cal_s, eq_self, if_true]; exact ho⟩
theorem sL_36 {S : St} (h : Inv S) (F : Nat) (hF : 2000000000 ≤ F) (a1 a2 : Int32) (rec : St → Option LR) (hrec : ∀ S, Inv S → ∃ o, rec S = some o) : ∃ o, fL_36 F a1 a2 rec S = some o := by
  obtain ⟨ns, nc, np, ny, nb, nh, nd, nk, Z, C, P, Y, B, H, D, K, nv, n, ni, V, E, Tx, hC, h0, h1, h2, h3, h4, h5, h6, h7, h8, h9, h10⟩ := id h
  obtain ⟨r, S1, S2, n2, Z2, e1, e2, q1, q2, q3, q4⟩ := Q_settlement h0 a1 a2
  obtain ⟨o, ho⟩ := hrec _ (⟨n2, nc, np, ny, nb, nh, nd, nk, Z2, C, P, Y, B, H, D, K, nv, n, ni, V, E, Tx, hC.eq q4, q1, h1.ch q2 (by decide), h2.ch q2 (by decide), h3.ch q2 (by decide), h4.ch q2 (by decide), h5.ch q2 (by decide), h6.ch q2 (by decide), h7.ch q2 (by decide), fun t ht => (h8 t ht).ch q2 (by omega) ht, fun t ht => (h9 t ht).ch q2 (by omega) ht, fun t ht => (h10 t ht).ch q2 (by omega) ht⟩)
  exact ⟨o, by simp only [fL_36, e1, e2, cal_s, eq_self, if_true]; exact ho⟩
theorem sL_37 {S : St} (h : Inv S) (F : Nat) (hF : 2000000000 ≤ F) (a1 : Int32) (rec : St → Option LR) (hrec : ∀ S, Inv S → ∃ o, rec S = some o) : ∃ o, fL_37 F a1 rec S = some o := by
  obtain ⟨ns, nc, np, ny, nb, nh, nd, nk, Z, C, P, Y, B, H, D, K, nv, n, ni, V, E, Tx, hC, h0, h1, h2, h3, h4, h5, h6, h7, h8, h9, h10⟩ := id h
  obtain ⟨r, e1, e2⟩ := Q_topped h0 F (by omega) a1
  obtain ⟨o, ho⟩ := hrec _ (h)
  exact ⟨o, by simp only [fL_37, e1, e2, cal_s, eq_self, if_true]; exact ho⟩
theorem sL_38 {S : St} (h : Inv S) (F : Nat) (hF : 2000000000 ≤ F) (a1 a2 a3 : Int32) (rec : St → Option LR) (hrec : ∀ S, Inv S → ∃ o, rec S = some o) : ∃ o, fL_38 F a1 a2 a3 rec S = some o := by
  obtain ⟨ns, nc, np, ny, nb, nh, nd, nk, Z, C, P, Y, B, H, D, K, nv, n, ni, V, E, Tx, hC, h0, h1, h2, h3, h4, h5, h6, h7, h8, h9, h10⟩ := id h
  obtain ⟨r, S1, S2, e1, e2, q2, q3, q4⟩ := Q_plan h1 F (by omega) a1 a2 a3
  obtain ⟨o, ho⟩ := hrec _ (h.sc q2 (hC.eq q4))
  exact ⟨o, by simp only [fL_38, e1, e2, cal_s, eq_self, if_true]; exact ho⟩
theorem sL_39 {S : St} (h : Inv S) (F : Nat) (hF : 2000000000 ≤ F) (a1 : Int32) (rec : St → Option LR) (hrec : ∀ S, Inv S → ∃ o, rec S = some o) : ∃ o, fL_39 F a1 rec S = some o := by
  obtain ⟨ns, nc, np, ny, nb, nh, nd, nk, Z, C, P, Y, B, H, D, K, nv, n, ni, V, E, Tx, hC, h0, h1, h2, h3, h4, h5, h6, h7, h8, h9, h10⟩ := id h
  obtain ⟨r, e1, e2⟩ := Q_count h0 h1 h2 h3 h4 h5 h6 h7 h9 h10 a1
  obtain ⟨o, ho⟩ := hrec _ (h)
  exact ⟨o, by simp only [fL_39, e1, e2, cal_s, eq_self, if_true]; exact ho⟩
