-- X11_deed
theorem nX11_deed_X11 : ∀ w ∈ u_ws RX11 TX11 9, w ∈ wsX11_deed := by decide +kernel
theorem wX11_deed_f29 : Cond.fieldLink RX11 29 "TwoTongues" "land" "LTwoTongues$Land;" ∈ wsX11_deed := by decide +kernel
set_option maxRecDepth 100000 in
set_option maxHeartbeats 4000000 in
theorem tX11_deed {ad : Nat → Nat → Nat} (X : Ctx) (γ : Nat → Nat) (S : St) (p1 : Int32) (p2 : Int32) (p3 : Int32) (p4 : Int32) : JJ X ad γ (RQm X ad 2 43 outei) (fcm outei) 2 43 cX11_deed 5 RX11 wsX11_deed (some .int) (fX11_deed S p1 p2 p3 p4) S 0 [(0, .ref (ad 10 0)), (1, .int p1), (2, .int p2), (3, .int p3), (4, .int p4)] [] := by
  unfold fX11_deed
  refine j_aload_n 0 0 dX11_deed_0 rfl rfl ?_
  refine j_getr (c2 := 4) (n2 := 0) 1 3 nX11_deed_X11 rfl (by decide) (prs_mem (by decide) (by decide)) (by decide) (by decide) wX11_deed_f29 (Or.inl rfl) rfl rfl rfl dX11_deed_1 ?_
  refine j_iload_n 4 1 dX11_deed_4 rfl rfl ?_
  refine j_callV_pi 5 rfl (by decide) (prs_mem (by decide) (by decide))  [.int p1] [] gX11_deed_X4_has rfl eX4_has ⟨Nat.le_of_ble_eq_true rfl, Nat.le_of_ble_eq_true rfl⟩ rfl rfl (Nat.le_of_ble_eq_true rfl) dX11_deed_5 (kX4_has S p1) (fun b_1 γ => ?_)
  refine j_if_eq 8 35 dX11_deed_8 (by decide) (fun _ => ?_) (fun _ => ?_)
  · refine j_iconst (v := (-1)) 35 dX11_deed_35 (by decide) ?_
    exact j_iret 36 rfl dX11_deed_36
  · refine j_iload_n 11 2 dX11_deed_11 rfl rfl ?_
    refine j_callS_pi 12  [.int p2] [] gX11_deed_X11_isKin rfl eX11_isKin ⟨Nat.le_of_ble_eq_true rfl, Nat.le_of_ble_eq_true rfl⟩ rfl rfl (Nat.le_of_ble_eq_true rfl) dX11_deed_12 (kX11_isKin S p2) (fun b_2 γ => ?_)
    refine j_if_eq 15 35 dX11_deed_15 (by decide) (fun _ => ?_) (fun _ => ?_)
    · refine j_iconst (v := (-1)) 35 dX11_deed_35 (by decide) ?_
      exact j_iret 36 rfl dX11_deed_36
    · refine j_iload_n 18 3 dX11_deed_18 rfl rfl ?_
      refine j_iconst (v := 0) 19 dX11_deed_19 (by decide) ?_
      refine j_iconst (v := 5) 20 dX11_deed_20 (by decide) ?_
      refine j_callS_pi 21  [.int p3, .int 0, .int 5] [] gX11_deed_X11_within rfl eX11_within ⟨Nat.le_of_ble_eq_true rfl, Nat.le_of_ble_eq_true rfl⟩ rfl rfl (Nat.le_of_ble_eq_true rfl) dX11_deed_21 (kX11_within S p3 0 5) (fun b_3 γ => ?_)
      refine j_if_eq 24 35 dX11_deed_24 (by decide) (fun _ => ?_) (fun _ => ?_)
      · refine j_iconst (v := (-1)) 35 dX11_deed_35 (by decide) ?_
        exact j_iret 36 rfl dX11_deed_36
      · refine j_iload 27 4 dX11_deed_27 rfl ?_
        refine j_callS_pi 29  [.int p4] [] gX11_deed_X11_isYear rfl eX11_isYear ⟨Nat.le_of_ble_eq_true rfl, Nat.le_of_ble_eq_true rfl⟩ rfl rfl (Nat.le_of_ble_eq_true rfl) dX11_deed_29 (kX11_isYear S p4) (fun b_4 γ => ?_)
        refine j_if_ne 32 37 dX11_deed_32 (by decide) (fun _ => ?_) (fun _ => ?_)
        · refine j_aload_n 37 0 dX11_deed_37 rfl rfl ?_
          refine j_getr (c2 := 4) (n2 := 0) 38 3 nX11_deed_X11 rfl (by decide) (prs_mem (by decide) (by decide)) (by decide) (by decide) wX11_deed_f29 (Or.inl rfl) rfl rfl rfl dX11_deed_38 ?_
          refine j_iload_n 41 1 dX11_deed_41 rfl rfl ?_
          refine j_iload_n 42 2 dX11_deed_42 rfl rfl ?_
          refine j_iload 43 4 dX11_deed_43 rfl ?_
          refine j_callV_ei 45 rfl (by decide) (prs_mem (by decide) (by decide))  [.int p1, .int p2, .int p4] [] gX11_deed_X4_addDeed rfl eX4_addDeed ⟨Nat.le_of_ble_eq_true rfl, Nat.le_of_ble_eq_true rfl⟩ rfl rfl (Nat.le_of_ble_eq_true rfl) dX11_deed_45 (kX4_addDeed S p1 p2 p4) (fun b_5 γ => ?_)
          exact j_iret 48 rfl dX11_deed_48
        · refine j_iconst (v := (-1)) 35 dX11_deed_35 (by decide) ?_
          exact j_iret 36 rfl dX11_deed_36
set_option maxRecDepth 100000 in
set_option maxHeartbeats 4000000 in
theorem kX11_deed {ad : Nat → Nat → Nat} (S : St) (p1 : Int32) (p2 : Int32) (p3 : Int32) (p4 : Int32) : ∀ b, fX11_deed S p1 p2 p3 p4 = some b → ∀ l dC dI cy, CT l dC dI cy ad yX11_deed wsX11_deed 2 43 [.ref (ad 10 0), .int p1, .int p2, .int p3, .int p4] S (some (.int b.1)) b.2 :=
  fun b hb l dC dI cy => ct_of (l := l) (dC := dC) (dI := dI) (cy := cy) outei (by decide) rfl (Nat.le_of_ble_eq_true rfl) rfl (fun X γ => tX11_deed X γ S p1 p2 p3 p4) b hb
-- X11_could
theorem nX11_could_X4 : ∀ w ∈ u_ws RX4 TX4 17, w ∈ wsX11_could := by decide +kernel
theorem nX11_could_X11 : ∀ w ∈ u_ws RX11 TX11 9, w ∈ wsX11_could := by decide +kernel
theorem wX11_could_f29 : Cond.fieldLink RX11 29 "TwoTongues" "land" "LTwoTongues$Land;" ∈ wsX11_could := by decide +kernel
theorem wX11_could_f214 : Cond.fieldLink RX11 214 "TwoTongues$Land" "deeds" "I" ∈ wsX11_could := by decide +kernel
set_option maxRecDepth 100000 in
set_option maxHeartbeats 4000000 in
theorem tX11_could {ad : Nat → Nat → Nat} (X : Ctx) (γ : Nat → Nat) (F : Nat) (S : St) (p1 : Int32) : JJ X ad γ (RQm X ad 4 96 (outpi S)) (fcm (outpi S)) 4 96 cX11_could 2 RX11 wsX11_could (some .int) (fX11_could F S p1) S 0 [(0, .ref (ad 10 0)), (1, .int p1)] [] := by
  unfold fX11_could
  refine j_iload_n 0 1 dX11_could_0 rfl rfl ?_
  refine j_iconst (v := 0) 1 dX11_could_1 (by decide) ?_
  refine j_aload_n 2 0 dX11_could_2 rfl rfl ?_
  refine j_getr (c2 := 4) (n2 := 0) 3 3 nX11_could_X11 rfl (by decide) (prs_mem (by decide) (by decide)) (by decide) (by decide) wX11_could_f29 (Or.inl rfl) rfl rfl rfl dX11_could_3 ?_
  refine j_geti 6 12 nX11_could_X4 rfl (by decide) (prs_mem (by decide) (by decide)) (by decide) (by decide) wX11_could_f214 (Or.inl rfl) rfl dX11_could_6 ?_
  refine j_iconst (v := 1) 9 dX11_could_9 (by decide) ?_
  refine j_isub 10 dX11_could_10 ?_
  refine j_callS_pi 11  [.int p1, .int 0, .int ((gI S 4 0 12) - 1)] [] gX11_could_X11_within rfl eX11_within ⟨Nat.le_of_ble_eq_true rfl, Nat.le_of_ble_eq_true rfl⟩ rfl rfl (Nat.le_of_ble_eq_true rfl) dX11_could_11 (kX11_within S p1 0 ((gI S 4 0 12) - 1)) (fun b_1 γ => ?_)
  refine j_if_ne 14 19 dX11_could_14 (by decide) (fun _ => ?_) (fun _ => ?_)
  · refine j_aload_n 19 0 dX11_could_19 rfl rfl ?_
    refine j_getr (c2 := 4) (n2 := 0) 20 3 nX11_could_X11 rfl (by decide) (prs_mem (by decide) (by decide)) (by decide) (by decide) wX11_could_f29 (Or.inl rfl) rfl rfl rfl dX11_could_20 ?_
    refine j_iload_n 23 1 dX11_could_23 rfl rfl ?_
    refine j_callV_pi 24 rfl (by decide) (prs_mem (by decide) (by decide))  [.int p1] [] gX11_could_X4_rightOfSeller rfl eX4_rightOfSeller ⟨Nat.le_of_ble_eq_true rfl, Nat.le_of_ble_eq_true rfl⟩ rfl rfl (Nat.le_of_ble_eq_true rfl) dX11_could_24 (kX4_rightOfSeller F S p1) (fun b_2 γ => ?_)
    exact j_iret 27 rfl dX11_could_27
  · refine j_iconst (v := (-1)) 17 dX11_could_17 (by decide) ?_
    exact j_iret 18 rfl dX11_could_18
set_option maxRecDepth 100000 in
set_option maxHeartbeats 4000000 in
theorem kX11_could {ad : Nat → Nat → Nat} (F : Nat) (S : St) (p1 : Int32) : ∀ b, fX11_could F S p1 = some b → ∀ l dC dI cy, CT l dC dI cy ad yX11_could wsX11_could 4 96 [.ref (ad 10 0), .int p1] S (some (.int b)) S :=
  fun b hb l dC dI cy => ct_of (l := l) (dC := dC) (dI := dI) (cy := cy) (outpi S) (by decide) rfl (Nat.le_of_ble_eq_true rfl) rfl (fun X γ => tX11_could X γ F S p1) b hb
-- X11_twice
theorem nX11_twice_X11 : ∀ w ∈ u_ws RX11 TX11 9, w ∈ wsX11_twice := by decide +kernel
theorem wX11_twice_f29 : Cond.fieldLink RX11 29 "TwoTongues" "land" "LTwoTongues$Land;" ∈ wsX11_twice := by decide +kernel
set_option maxRecDepth 100000 in
set_option maxHeartbeats 4000000 in
theorem tX11_twice {ad : Nat → Nat → Nat} (X : Ctx) (γ : Nat → Nat) (F : Nat) (S : St) (p1 : Int32) : JJ X ad γ (RQm X ad 2 43 (outpi S)) (fcm (outpi S)) 2 43 cX11_twice 2 RX11 wsX11_twice (some .int) (fX11_twice F S p1) S 0 [(0, .ref (ad 10 0)), (1, .int p1)] [] := by
  unfold fX11_twice
  refine j_aload_n 0 0 dX11_twice_0 rfl rfl ?_
  refine j_getr (c2 := 4) (n2 := 0) 1 3 nX11_twice_X11 rfl (by decide) (prs_mem (by decide) (by decide)) (by decide) (by decide) wX11_twice_f29 (Or.inl rfl) rfl rfl rfl dX11_twice_1 ?_
  refine j_iload_n 4 1 dX11_twice_4 rfl rfl ?_
  refine j_callV_pi 5 rfl (by decide) (prs_mem (by decide) (by decide))  [.int p1] [] gX11_twice_X4_has rfl eX4_has ⟨Nat.le_of_ble_eq_true rfl, Nat.le_of_ble_eq_true rfl⟩ rfl rfl (Nat.le_of_ble_eq_true rfl) dX11_twice_5 (kX4_has S p1) (fun b_1 γ => ?_)
  refine j_if_ne 8 13 dX11_twice_8 (by decide) (fun _ => ?_) (fun _ => ?_)
  · refine j_aload_n 13 0 dX11_twice_13 rfl rfl ?_
    refine j_getr (c2 := 4) (n2 := 0) 14 3 nX11_twice_X11 rfl (by decide) (prs_mem (by decide) (by decide)) (by decide) (by decide) wX11_twice_f29 (Or.inl rfl) rfl rfl rfl dX11_twice_14 ?_
    refine j_iload_n 17 1 dX11_twice_17 rfl rfl ?_
    refine j_callV_pi 18 rfl (by decide) (prs_mem (by decide) (by decide))  [.int p1] [] gX11_twice_X4_firstSoldTwice rfl eX4_firstSoldTwice ⟨Nat.le_of_ble_eq_true rfl, Nat.le_of_ble_eq_true rfl⟩ rfl rfl (Nat.le_of_ble_eq_true rfl) dX11_twice_18 (kX4_firstSoldTwice F S p1) (fun b_2 γ => ?_)
    exact j_iret 21 rfl dX11_twice_21
  · refine j_iconst (v := (-1)) 11 dX11_twice_11 (by decide) ?_
    exact j_iret 12 rfl dX11_twice_12
set_option maxRecDepth 100000 in
set_option maxHeartbeats 4000000 in
theorem kX11_twice {ad : Nat → Nat → Nat} (F : Nat) (S : St) (p1 : Int32) : ∀ b, fX11_twice F S p1 = some b → ∀ l dC dI cy, CT l dC dI cy ad yX11_twice wsX11_twice 2 43 [.ref (ad 10 0), .int p1] S (some (.int b)) S :=
  fun b hb l dC dI cy => ct_of (l := l) (dC := dC) (dI := dI) (cy := cy) (outpi S) (by decide) rfl (Nat.le_of_ble_eq_true rfl) rfl (fun X γ => tX11_twice X γ F S p1) b hb
-- X11_take
theorem nX11_take_X11 : ∀ w ∈ u_ws RX11 TX11 9, w ∈ wsX11_take := by decide +kernel
theorem wX11_take_f29 : Cond.fieldLink RX11 29 "TwoTongues" "land" "LTwoTongues$Land;" ∈ wsX11_take := by decide +kernel
set_option maxRecDepth 100000 in
set_option maxHeartbeats 4000000 in
theorem tX11_take {ad : Nat → Nat → Nat} (X : Ctx) (γ : Nat → Nat) (S : St) (p1 : Int32) (p2 : Int32) (p3 : Int32) : JJ X ad γ (RQm X ad 2 43 outei) (fcm outei) 2 43 cX11_take 4 RX11 wsX11_take (some .int) (fX11_take S p1 p2 p3) S 0 [(0, .ref (ad 10 0)), (1, .int p1), (2, .int p2), (3, .int p3)] [] := by
  unfold fX11_take
  refine j_aload_n 0 0 dX11_take_0 rfl rfl ?_
  refine j_getr (c2 := 4) (n2 := 0) 1 3 nX11_take_X11 rfl (by decide) (prs_mem (by decide) (by decide)) (by decide) (by decide) wX11_take_f29 (Or.inl rfl) rfl rfl rfl dX11_take_1 ?_
  refine j_iload_n 4 1 dX11_take_4 rfl rfl ?_
  refine j_callV_pi 5 rfl (by decide) (prs_mem (by decide) (by decide))  [.int p1] [] gX11_take_X4_has rfl eX4_has ⟨Nat.le_of_ble_eq_true rfl, Nat.le_of_ble_eq_true rfl⟩ rfl rfl (Nat.le_of_ble_eq_true rfl) dX11_take_5 (kX4_has S p1) (fun b_1 γ => ?_)
  refine j_if_eq 8 25 dX11_take_8 (by decide) (fun _ => ?_) (fun _ => ?_)
  · refine j_iconst (v := (-1)) 25 dX11_take_25 (by decide) ?_
    exact j_iret 26 rfl dX11_take_26
  · refine j_iload_n 11 2 dX11_take_11 rfl rfl ?_
    refine j_callS_pi 12  [.int p2] [] gX11_take_X11_isKin rfl eX11_isKin ⟨Nat.le_of_ble_eq_true rfl, Nat.le_of_ble_eq_true rfl⟩ rfl rfl (Nat.le_of_ble_eq_true rfl) dX11_take_12 (kX11_isKin S p2) (fun b_2 γ => ?_)
    refine j_if_eq 15 25 dX11_take_15 (by decide) (fun _ => ?_) (fun _ => ?_)
    · refine j_iconst (v := (-1)) 25 dX11_take_25 (by decide) ?_
      exact j_iret 26 rfl dX11_take_26
    · refine j_iload_n 18 3 dX11_take_18 rfl rfl ?_
      refine j_callS_pi 19  [.int p3] [] gX11_take_X11_isYear rfl eX11_isYear ⟨Nat.le_of_ble_eq_true rfl, Nat.le_of_ble_eq_true rfl⟩ rfl rfl (Nat.le_of_ble_eq_true rfl) dX11_take_19 (kX11_isYear S p3) (fun b_3 γ => ?_)
      refine j_if_ne 22 27 dX11_take_22 (by decide) (fun _ => ?_) (fun _ => ?_)
      · refine j_aload_n 27 0 dX11_take_27 rfl rfl ?_
        refine j_getr (c2 := 4) (n2 := 0) 28 3 nX11_take_X11 rfl (by decide) (prs_mem (by decide) (by decide)) (by decide) (by decide) wX11_take_f29 (Or.inl rfl) rfl rfl rfl dX11_take_28 ?_
        refine j_iload_n 31 1 dX11_take_31 rfl rfl ?_
        refine j_iload_n 32 2 dX11_take_32 rfl rfl ?_
        refine j_iload_n 33 3 dX11_take_33 rfl rfl ?_
        refine j_callV_ei 34 rfl (by decide) (prs_mem (by decide) (by decide))  [.int p1, .int p2, .int p3] [] gX11_take_X4_addTaking rfl eX4_addTaking ⟨Nat.le_of_ble_eq_true rfl, Nat.le_of_ble_eq_true rfl⟩ rfl rfl (Nat.le_of_ble_eq_true rfl) dX11_take_34 (kX4_addTaking S p1 p2 p3) (fun b_4 γ => ?_)
        exact j_iret 37 rfl dX11_take_37
      · refine j_iconst (v := (-1)) 25 dX11_take_25 (by decide) ?_
        exact j_iret 26 rfl dX11_take_26
set_option maxRecDepth 100000 in
set_option maxHeartbeats 4000000 in
theorem kX11_take {ad : Nat → Nat → Nat} (S : St) (p1 : Int32) (p2 : Int32) (p3 : Int32) : ∀ b, fX11_take S p1 p2 p3 = some b → ∀ l dC dI cy, CT l dC dI cy ad yX11_take wsX11_take 2 43 [.ref (ad 10 0), .int p1, .int p2, .int p3] S (some (.int b.1)) b.2 :=
  fun b hb l dC dI cy => ct_of (l := l) (dC := dC) (dI := dI) (cy := cy) outei (by decide) rfl (Nat.le_of_ble_eq_true rfl) rfl (fun X γ => tX11_take X γ S p1 p2 p3) b hb
-- X11_wronged
theorem nX11_wronged_X4 : ∀ w ∈ u_ws RX4 TX4 17, w ∈ wsX11_wronged := by decide +kernel
theorem nX11_wronged_X11 : ∀ w ∈ u_ws RX11 TX11 9, w ∈ wsX11_wronged := by decide +kernel
theorem wX11_wronged_f29 : Cond.fieldLink RX11 29 "TwoTongues" "land" "LTwoTongues$Land;" ∈ wsX11_wronged := by decide +kernel
theorem wX11_wronged_f227 : Cond.fieldLink RX11 227 "TwoTongues$Land" "takings" "I" ∈ wsX11_wronged := by decide +kernel
set_option maxRecDepth 100000 in
set_option maxHeartbeats 4000000 in
theorem tX11_wronged {ad : Nat → Nat → Nat} (X : Ctx) (γ : Nat → Nat) (F : Nat) (S : St) (p1 : Int32) : JJ X ad γ (RQm X ad 4 96 (outpi S)) (fcm (outpi S)) 4 96 cX11_wronged 2 RX11 wsX11_wronged (some .int) (fX11_wronged F S p1) S 0 [(0, .ref (ad 10 0)), (1, .int p1)] [] := by
  unfold fX11_wronged
  refine j_iload_n 0 1 dX11_wronged_0 rfl rfl ?_
  refine j_iconst (v := 0) 1 dX11_wronged_1 (by decide) ?_
  refine j_aload_n 2 0 dX11_wronged_2 rfl rfl ?_
  refine j_getr (c2 := 4) (n2 := 0) 3 3 nX11_wronged_X11 rfl (by decide) (prs_mem (by decide) (by decide)) (by decide) (by decide) wX11_wronged_f29 (Or.inl rfl) rfl rfl rfl dX11_wronged_3 ?_
  refine j_geti 6 16 nX11_wronged_X4 rfl (by decide) (prs_mem (by decide) (by decide)) (by decide) (by decide) wX11_wronged_f227 (Or.inl rfl) rfl dX11_wronged_6 ?_
  refine j_iconst (v := 1) 9 dX11_wronged_9 (by decide) ?_
  refine j_isub 10 dX11_wronged_10 ?_
  refine j_callS_pi 11  [.int p1, .int 0, .int ((gI S 4 0 16) - 1)] [] gX11_wronged_X11_within rfl eX11_within ⟨Nat.le_of_ble_eq_true rfl, Nat.le_of_ble_eq_true rfl⟩ rfl rfl (Nat.le_of_ble_eq_true rfl) dX11_wronged_11 (kX11_within S p1 0 ((gI S 4 0 16) - 1)) (fun b_1 γ => ?_)
  refine j_if_ne 14 19 dX11_wronged_14 (by decide) (fun _ => ?_) (fun _ => ?_)
  · refine j_aload_n 19 0 dX11_wronged_19 rfl rfl ?_
    refine j_getr (c2 := 4) (n2 := 0) 20 3 nX11_wronged_X11 rfl (by decide) (prs_mem (by decide) (by decide)) (by decide) (by decide) wX11_wronged_f29 (Or.inl rfl) rfl rfl rfl dX11_wronged_20 ?_
    refine j_iload_n 23 1 dX11_wronged_23 rfl rfl ?_
    refine j_callV_pi 24 rfl (by decide) (prs_mem (by decide) (by decide))  [.int p1] [] gX11_wronged_X4_wrongedBy rfl eX4_wrongedBy ⟨Nat.le_of_ble_eq_true rfl, Nat.le_of_ble_eq_true rfl⟩ rfl rfl (Nat.le_of_ble_eq_true rfl) dX11_wronged_24 (kX4_wrongedBy F S p1) (fun b_2 γ => ?_)
    exact j_iret 27 rfl dX11_wronged_27
  · refine j_iconst (v := (-1)) 17 dX11_wronged_17 (by decide) ?_
    exact j_iret 18 rfl dX11_wronged_18
set_option maxRecDepth 100000 in
set_option maxHeartbeats 4000000 in
theorem kX11_wronged {ad : Nat → Nat → Nat} (F : Nat) (S : St) (p1 : Int32) : ∀ b, fX11_wronged F S p1 = some b → ∀ l dC dI cy, CT l dC dI cy ad yX11_wronged wsX11_wronged 4 96 [.ref (ad 10 0), .int p1] S (some (.int b)) S :=
  fun b hb l dC dI cy => ct_of (l := l) (dC := dC) (dI := dI) (cy := cy) (outpi S) (by decide) rfl (Nat.le_of_ble_eq_true rfl) rfl (fun X γ => tX11_wronged X γ F S p1) b hb
-- X11_shares
theorem nX11_shares_X4 : ∀ w ∈ u_ws RX4 TX4 17, w ∈ wsX11_shares := by decide +kernel
theorem nX11_shares_X11 : ∀ w ∈ u_ws RX11 TX11 9, w ∈ wsX11_shares := by decide +kernel
theorem wX11_shares_f29 : Cond.fieldLink RX11 29 "TwoTongues" "land" "LTwoTongues$Land;" ∈ wsX11_shares := by decide +kernel
theorem wX11_shares_f22 : Cond.fieldLink RX11 22 "TwoTongues" "people" "LTwoTongues$People;" ∈ wsX11_shares := by decide +kernel
theorem wX11_shares_f236 : Cond.fieldLink RX11 236 "TwoTongues$Land" "sharedKin" "[I" ∈ wsX11_shares := by decide +kernel
theorem wX11_shares_f239 : Cond.fieldLink RX11 239 "TwoTongues$Land" "sharedFrom" "[I" ∈ wsX11_shares := by decide +kernel
set_option maxRecDepth 100000 in
set_option maxHeartbeats 4000000 in
theorem tX11_shares {ad : Nat → Nat → Nat} (X : Ctx) (γ : Nat → Nat) (F : Nat) (S : St) (p1 : Int32) (p2 : Int32) (p3 : Int32) : JJ X ad γ (RQm X ad 4 90 outei) (fcm outei) 4 90 cX11_shares 5 RX11 wsX11_shares (some .int) (fX11_shares F S p1 p2 p3) S 0 [(0, .ref (ad 10 0)), (1, .int p1), (2, .int p2), (3, .int p3)] [] := by
  unfold fX11_shares
  refine j_aload_n 0 0 dX11_shares_0 rfl rfl ?_
  refine j_getr (c2 := 4) (n2 := 0) 1 3 nX11_shares_X11 rfl (by decide) (prs_mem (by decide) (by decide)) (by decide) (by decide) wX11_shares_f29 (Or.inl rfl) rfl rfl rfl dX11_shares_1 ?_
  refine j_iload_n 4 1 dX11_shares_4 rfl rfl ?_
  refine j_callV_pi 5 rfl (by decide) (prs_mem (by decide) (by decide))  [.int p1] [] gX11_shares_X4_has rfl eX4_has ⟨Nat.le_of_ble_eq_true rfl, Nat.le_of_ble_eq_true rfl⟩ rfl rfl (Nat.le_of_ble_eq_true rfl) dX11_shares_5 (kX4_has S p1) (fun b_1 γ => ?_)
  refine j_if_eq 8 25 dX11_shares_8 (by decide) (fun _ => ?_) (fun _ => ?_)
  · refine j_iconst (v := (-1)) 25 dX11_shares_25 (by decide) ?_
    exact j_iret 26 rfl dX11_shares_26
  · refine j_iload_n 11 2 dX11_shares_11 rfl rfl ?_
    refine j_callS_pi 12  [.int p2] [] gX11_shares_X11_isKin rfl eX11_isKin ⟨Nat.le_of_ble_eq_true rfl, Nat.le_of_ble_eq_true rfl⟩ rfl rfl (Nat.le_of_ble_eq_true rfl) dX11_shares_12 (kX11_isKin S p2) (fun b_2 γ => ?_)
    refine j_if_eq 15 25 dX11_shares_15 (by decide) (fun _ => ?_) (fun _ => ?_)
    · refine j_iconst (v := (-1)) 25 dX11_shares_25 (by decide) ?_
      exact j_iret 26 rfl dX11_shares_26
    · refine j_iload_n 18 3 dX11_shares_18 rfl rfl ?_
      refine j_callS_pi 19  [.int p3] [] gX11_shares_X11_isYear rfl eX11_isYear ⟨Nat.le_of_ble_eq_true rfl, Nat.le_of_ble_eq_true rfl⟩ rfl rfl (Nat.le_of_ble_eq_true rfl) dX11_shares_19 (kX11_isYear S p3) (fun b_3 γ => ?_)
      refine j_if_ne 22 27 dX11_shares_22 (by decide) (fun _ => ?_) (fun _ => ?_)
      · refine j_aload_n 27 0 dX11_shares_27 rfl rfl ?_
        refine j_getr (c2 := 6) (n2 := 0) 28 2 nX11_shares_X11 rfl (by decide) (prs_mem (by decide) (by decide)) (by decide) (by decide) wX11_shares_f22 (Or.inl rfl) rfl rfl rfl dX11_shares_28 ?_
        refine j_iload_n 31 2 dX11_shares_31 rfl rfl ?_
        refine j_iload_n 32 3 dX11_shares_32 rfl rfl ?_
        refine j_callV_pi 33 rfl (by decide) (prs_mem (by decide) (by decide))  [.int p2, .int p3] [] gX11_shares_X7_livingFounders rfl eX7_livingFounders ⟨Nat.le_of_ble_eq_true rfl, Nat.le_of_ble_eq_true rfl⟩ rfl rfl (Nat.le_of_ble_eq_true rfl) dX11_shares_33 (kX7_livingFounders F S p2 p3) (fun b_4 γ => ?_)
        refine j_istore (lv2 := [(4, .int b_4), (0, .ref (ad 10 0)), (1, .int p1), (2, .int p2), (3, .int p3)]) 36 dX11_shares_36 (by decide) rfl ?_
        refine j_iload 38 0 dX11_shares_38 rfl ?_
        refine j_if_ne 40 46 dX11_shares_40 (by decide) (fun _ => ?_) (fun _ => ?_)
        · refine j_aload_n 46 1 dX11_shares_46 rfl rfl ?_
          refine j_getr (c2 := 4) (n2 := 0) 47 3 nX11_shares_X11 rfl (by decide) (prs_mem (by decide) (by decide)) (by decide) (by decide) wX11_shares_f29 (Or.inl rfl) rfl rfl rfl dX11_shares_47 ?_
          refine j_getr (c2 := 21) (n2 := 0) 50 1 nX11_shares_X4 rfl (by decide) (prs_mem (by decide) (by decide)) (by decide) (by decide) wX11_shares_f236 (Or.inl rfl) rfl rfl rfl dX11_shares_50 ?_
          refine j_iload_n 53 2 dX11_shares_53 rfl rfl ?_
          refine j_iload_n 54 3 dX11_shares_54 rfl rfl ?_
          refine j_iast (c := 21) (n := 0) (L := 12) 55 (prs_mem (by decide) (by decide)) (by decide) rfl rfl rfl dX11_shares_55 (j_bs (fun S_5 => ?_))
          refine j_aload_n 56 1 dX11_shares_56 rfl rfl ?_
          refine j_getr (c2 := 4) (n2 := 0) 57 3 nX11_shares_X11 rfl (by decide) (prs_mem (by decide) (by decide)) (by decide) (by decide) wX11_shares_f29 (Or.inl rfl) rfl rfl rfl dX11_shares_57 ?_
          refine j_getr (c2 := 22) (n2 := 0) 60 2 nX11_shares_X4 rfl (by decide) (prs_mem (by decide) (by decide)) (by decide) (by decide) wX11_shares_f239 (Or.inl rfl) rfl rfl rfl dX11_shares_60 ?_
          refine j_iload_n 63 2 dX11_shares_63 rfl rfl ?_
          refine j_iload_n 64 4 dX11_shares_64 rfl rfl ?_
          refine j_iast (c := 22) (n := 0) (L := 12) 65 (prs_mem (by decide) (by decide)) (by decide) rfl rfl rfl dX11_shares_65 (j_bs (fun S_6 => ?_))
          refine j_iload 66 0 dX11_shares_66 rfl ?_
          exact j_iret 68 rfl dX11_shares_68
        · refine j_bipush (v := (-2)) 43 dX11_shares_43 (by decide) ?_
          exact j_iret 45 rfl dX11_shares_45
      · refine j_iconst (v := (-1)) 25 dX11_shares_25 (by decide) ?_
        exact j_iret 26 rfl dX11_shares_26
set_option maxRecDepth 100000 in
set_option maxHeartbeats 4000000 in
theorem kX11_shares {ad : Nat → Nat → Nat} (F : Nat) (S : St) (p1 : Int32) (p2 : Int32) (p3 : Int32) : ∀ b, fX11_shares F S p1 p2 p3 = some b → ∀ l dC dI cy, CT l dC dI cy ad yX11_shares wsX11_shares 4 90 [.ref (ad 10 0), .int p1, .int p2, .int p3] S (some (.int b.1)) b.2 :=
  fun b hb l dC dI cy => ct_of (l := l) (dC := dC) (dI := dI) (cy := cy) outei (by decide) rfl (Nat.le_of_ble_eq_true rfl) rfl (fun X γ => tX11_shares X γ F S p1 p2 p3) b hb
-- X11_share
theorem nX11_share_X1 : ∀ w ∈ u_ws RX1 TX1 8, w ∈ wsX11_share := by decide +kernel
theorem nX11_share_X4 : ∀ w ∈ u_ws RX4 TX4 17, w ∈ wsX11_share := by decide +kernel
theorem nX11_share_X11 : ∀ w ∈ u_ws RX11 TX11 9, w ∈ wsX11_share := by decide +kernel
theorem wX11_share_f29 : Cond.fieldLink RX11 29 "TwoTongues" "land" "LTwoTongues$Land;" ∈ wsX11_share := by decide +kernel
theorem wX11_share_c242 : Cond.constantLong RX11 242 (-1) ∈ wsX11_share := by decide +kernel
theorem wX11_share_f239 : Cond.fieldLink RX11 239 "TwoTongues$Land" "sharedFrom" "[I" ∈ wsX11_share := by decide +kernel
theorem wX11_share_c244 : Cond.constantLong RX11 244 (-2) ∈ wsX11_share := by decide +kernel
theorem wX11_share_f38 : Cond.fieldLink RX11 38 "TwoTongues" "estate" "LTwoTongues$Estate;" ∈ wsX11_share := by decide +kernel
theorem wX11_share_f236 : Cond.fieldLink RX11 236 "TwoTongues$Land" "sharedKin" "[I" ∈ wsX11_share := by decide +kernel
theorem wX11_share_f257 : Cond.fieldLink RX11 257 "TwoTongues$Estate" "parts" "[J" ∈ wsX11_share := by decide +kernel
theorem wX11_share_f253 : Cond.fieldLink RX11 253 "TwoTongues$Estate" "lapsed" "J" ∈ wsX11_share := by decide +kernel
theorem wX11_share_f22 : Cond.fieldLink RX11 22 "TwoTongues" "people" "LTwoTongues$People;" ∈ wsX11_share := by decide +kernel
set_option maxRecDepth 100000 in
set_option maxHeartbeats 4000000 in
theorem tX11_share_L86 {ad : Nat → Nat → Nat} (X : Ctx) (F : Nat) (x2 : Int32) (x3 : Int32) (k107 : St → Option (Int64 × St))  (hk107 : ∀ (γ : Nat → Nat) (S : St), JJ X ad γ (RQm X ad 9 230 outel) (fcm outel) 9 230 cX11_share 6 RX11 wsX11_share (some .long) (k107 S) S 107 [(0, .ref (ad 10 0)), (2, .int x2)] []) : ∀ (n : Nat) (γ : Nat → Nat) (x5 : Int32) (S : St), JJ X ad γ (RQm X ad 9 230 outel) (fcm outel) 9 230 cX11_share 6 RX11 wsX11_share (some .long) (fX11_share_L86 F x2 x3 k107 n x5 S) S 86 [(0, .ref (ad 10 0)), (2, .int x2), (3, .int x3), (5, .int x5)] [] := by
  intro n
  induction n with
  | zero => intro _ _ _; exact j_none
  | succ n ih =>
    intro γ x5 S
    rw [show fX11_share_L86 F x2 x3 k107 (n + 1) x5 S = fX11_share_b86 F x2 x3 k107 (fX11_share_L86 F x2 x3 k107 n) x5 S from rfl]
    unfold fX11_share_b86
    refine j_iload 86 3 dX11_share_86 rfl ?_
    refine j_iload_n 88 2 dX11_share_88 rfl rfl ?_
    refine j_icmp_gt 89 107 dX11_share_89 (by decide) (fun _ => ?_) (fun _ => ?_)
    · refine j_sub [0, 1] rfl ?_
      exact hk107 _ S
    · refine j_aload_n 92 0 dX11_share_92 rfl rfl ?_
      refine j_getr (c2 := 1) (n2 := 0) 93 4 nX11_share_X11 rfl (by decide) (prs_mem (by decide) (by decide)) (by decide) (by decide) wX11_share_f38 (Or.inl rfl) rfl rfl rfl dX11_share_93 ?_
      refine j_iload 96 3 dX11_share_96 rfl ?_
      refine j_callV_ev 98 rfl (by decide) (prs_mem (by decide) (by decide))  [.int x5] [] gX11_share_X1_pass rfl eX1_pass ⟨Nat.le_of_ble_eq_true rfl, Nat.le_of_ble_eq_true rfl⟩ rfl rfl (Nat.le_of_ble_eq_true rfl) dX11_share_98 (kX1_pass F S x5) (fun b_5 γ => ?_)
      refine j_iinc (v := x5 + 1) (lv2 := [(5, .int (x5 + 1)), (0, .ref (ad 10 0)), (2, .int x2), (3, .int x3)]) 101 3 dX11_share_101 rfl rfl (by decide) rfl ?_
      refine j_goto 104 86 dX11_share_104 (by decide) ?_
      refine j_sub [1, 2, 3, 0] rfl ?_
      exact ih _ (x5 + 1) b_5
set_option maxRecDepth 100000 in
set_option maxHeartbeats 4000000 in
theorem tX11_share_j27 {ad : Nat → Nat → Nat} (X : Ctx) (γ : Nat → Nat) (F : Nat) (S : St) (x1 : Int32) (x2 : Int32) (x3 : Int32)   : JJ X ad γ (RQm X ad 9 230 outel) (fcm outel) 9 230 cX11_share 6 RX11 wsX11_share (some .long) (fX11_share_j27 F S x1 x2 x3) S 27 [(0, .ref (ad 10 0)), (1, .int x1), (2, .int x2), (3, .int x3)] [] := by
  unfold fX11_share_j27
  refine j_iload_n 27 3 dX11_share_27 rfl rfl ?_
  refine j_callS_pi 28  [.int x3] [] gX11_share_X11_isYear rfl eX11_isYear ⟨Nat.le_of_ble_eq_true rfl, Nat.le_of_ble_eq_true rfl⟩ rfl rfl (Nat.le_of_ble_eq_true rfl) dX11_share_28 (kX11_isYear S x3) (fun b_2 γ => ?_)
  refine j_if_ne 31 38 dX11_share_31 (by decide) (fun _ => ?_) (fun _ => ?_)
  · refine j_aload_n 38 0 dX11_share_38 rfl rfl ?_
    refine j_getr (c2 := 4) (n2 := 0) 39 3 nX11_share_X11 rfl (by decide) (prs_mem (by decide) (by decide)) (by decide) (by decide) wX11_share_f29 (Or.inl rfl) rfl rfl rfl dX11_share_39 ?_
    refine j_getr (c2 := 22) (n2 := 0) 42 2 nX11_share_X4 rfl (by decide) (prs_mem (by decide) (by decide)) (by decide) (by decide) wX11_share_f239 (Or.inl rfl) rfl rfl rfl dX11_share_42 ?_
    refine j_iload_n 45 1 dX11_share_45 rfl rfl ?_
    refine j_iald (c := 22) (n := 0) (L := 12) 46 (prs_mem (by decide) (by decide)) (by decide) rfl rfl rfl dX11_share_46 ?_
    refine j_bndi (fun x4_3 => ?_)
    refine j_istore (lv2 := [(4, .int x4_3), (0, .ref (ad 10 0)), (1, .int x1), (2, .int x2), (3, .int x3)]) 47 dX11_share_47 (by decide) rfl ?_
    refine j_iload 49 0 dX11_share_49 rfl ?_
    refine j_if_lt 51 60 dX11_share_51 (by decide) (fun _ => ?_) (fun _ => ?_)
    · refine j_ldc2 (v := (-2)) 60 dX11_share_60 wX11_share_c244 ?_
      exact j_lret 63 rfl dX11_share_63
    · refine j_iload_n 54 4 dX11_share_54 rfl rfl ?_
      refine j_iload 55 0 dX11_share_55 rfl ?_
      refine j_icmp_ge 57 64 dX11_share_57 (by decide) (fun _ => ?_) (fun _ => ?_)
      · refine j_aload_n 64 1 dX11_share_64 rfl rfl ?_
        refine j_getr (c2 := 1) (n2 := 0) 65 4 nX11_share_X11 rfl (by decide) (prs_mem (by decide) (by decide)) (by decide) (by decide) wX11_share_f38 (Or.inl rfl) rfl rfl rfl dX11_share_65 ?_
        refine j_aload_n 68 1 dX11_share_68 rfl rfl ?_
        refine j_getr (c2 := 4) (n2 := 0) 69 3 nX11_share_X11 rfl (by decide) (prs_mem (by decide) (by decide)) (by decide) (by decide) wX11_share_f29 (Or.inl rfl) rfl rfl rfl dX11_share_69 ?_
        refine j_getr (c2 := 21) (n2 := 0) 72 1 nX11_share_X4 rfl (by decide) (prs_mem (by decide) (by decide)) (by decide) (by decide) wX11_share_f236 (Or.inl rfl) rfl rfl rfl dX11_share_72 ?_
        refine j_iload_n 75 2 dX11_share_75 rfl rfl ?_
        refine j_iald (c := 21) (n := 0) (L := 12) 76 (prs_mem (by decide) (by decide)) (by decide) rfl rfl rfl dX11_share_76 ?_
        refine j_iload 77 0 dX11_share_77 rfl ?_
        refine j_callV_ev 79 rfl (by decide) (prs_mem (by decide) (by decide))  [.int (gA S 21 0 x1.toNatClampNeg), .int x4_3] [] gX11_share_X1_open rfl eX1_open ⟨Nat.le_of_ble_eq_true rfl, Nat.le_of_ble_eq_true rfl⟩ rfl rfl (Nat.le_of_ble_eq_true rfl) dX11_share_79 (kX1_open F S (gA S 21 0 x1.toNatClampNeg) x4_3) (fun b_4 γ => ?_)
        refine j_iload 82 0 dX11_share_82 rfl ?_
        refine j_istore (lv2 := [(5, .int x4_3), (4, .int x4_3), (0, .ref (ad 10 0)), (1, .int x1), (2, .int x2), (3, .int x3)]) 84 dX11_share_84 (by decide) rfl ?_
        refine j_sub [2, 4, 5, 0] rfl ?_
        refine tX11_share_L86 X F x2 x3 _ (fun γ S_6 => ?_) F _ x4_3 b_4
        refine j_iload_n 107 1 dX11_share_107 rfl rfl ?_
        refine j_iconst (v := (-1)) 108 dX11_share_108 (by decide) ?_
        refine j_icmp_ne 109 122 dX11_share_109 (by decide) (fun _ => ?_) (fun _ => ?_)
        · refine j_aload_n 122 0 dX11_share_122 rfl rfl ?_
          refine j_getr (c2 := 1) (n2 := 0) 123 4 nX11_share_X11 rfl (by decide) (prs_mem (by decide) (by decide)) (by decide) (by decide) wX11_share_f38 (Or.inl rfl) rfl rfl rfl dX11_share_123 ?_
          refine j_getr (c2 := 18) (n2 := 0) 126 1 nX11_share_X1 rfl (by decide) (prs_mem (by decide) (by decide)) (by decide) (by decide) wX11_share_f257 (Or.inl rfl) rfl rfl rfl dX11_share_126 ?_
          refine j_iload_n 129 1 dX11_share_129 rfl rfl ?_
          refine j_lald (c := 18) (n := 0) (L := 30) 130 (prs_mem (by decide) (by decide)) (by decide) rfl rfl rfl dX11_share_130 ?_
          exact j_lret 131 rfl dX11_share_131
        · refine j_aload_n 112 0 dX11_share_112 rfl rfl ?_
          refine j_getr (c2 := 1) (n2 := 0) 113 4 nX11_share_X11 rfl (by decide) (prs_mem (by decide) (by decide)) (by decide) (by decide) wX11_share_f38 (Or.inl rfl) rfl rfl rfl dX11_share_113 ?_
          refine j_getl 116 2 nX11_share_X1 rfl (by decide) (prs_mem (by decide) (by decide)) (by decide) (by decide) wX11_share_f253 (Or.inl rfl) rfl dX11_share_116 ?_
          refine j_goto 119 131 dX11_share_119 (by decide) ?_
          exact j_lret 131 rfl dX11_share_131
      · refine j_ldc2 (v := (-2)) 60 dX11_share_60 wX11_share_c244 ?_
        exact j_lret 63 rfl dX11_share_63
  · refine j_ldc2 (v := (-1)) 34 dX11_share_34 wX11_share_c242 ?_
    exact j_lret 37 rfl dX11_share_37
set_option maxRecDepth 100000 in
set_option maxHeartbeats 4000000 in
theorem tX11_share {ad : Nat → Nat → Nat} (X : Ctx) (γ : Nat → Nat) (F : Nat) (S : St) (p1 : Int32) (p2 : Int32) (p3 : Int32) : JJ X ad γ (RQm X ad 9 230 outel) (fcm outel) 9 230 cX11_share 6 RX11 wsX11_share (some .long) (fX11_share F S p1 p2 p3) S 0 [(0, .ref (ad 10 0)), (1, .int p1), (2, .int p2), (3, .int p3)] [] := by
  unfold fX11_share
  refine j_aload_n 0 0 dX11_share_0 rfl rfl ?_
  refine j_getr (c2 := 4) (n2 := 0) 1 3 nX11_share_X11 rfl (by decide) (prs_mem (by decide) (by decide)) (by decide) (by decide) wX11_share_f29 (Or.inl rfl) rfl rfl rfl dX11_share_1 ?_
  refine j_iload_n 4 1 dX11_share_4 rfl rfl ?_
  refine j_callV_pi 5 rfl (by decide) (prs_mem (by decide) (by decide))  [.int p1] [] gX11_share_X4_has rfl eX4_has ⟨Nat.le_of_ble_eq_true rfl, Nat.le_of_ble_eq_true rfl⟩ rfl rfl (Nat.le_of_ble_eq_true rfl) dX11_share_5 (kX4_has S p1) (fun b_1 γ => ?_)
  refine j_if_eq 8 34 dX11_share_8 (by decide) (fun _ => ?_) (fun _ => ?_)
  · refine j_ldc2 (v := (-1)) 34 dX11_share_34 wX11_share_c242 ?_
    exact j_lret 37 rfl dX11_share_37
  · refine j_iload_n 11 2 dX11_share_11 rfl rfl ?_
    refine j_iconst (v := (-1)) 12 dX11_share_12 (by decide) ?_
    refine j_icmp_eq 13 27 dX11_share_13 (by decide) (fun _ => ?_) (fun _ => ?_)
    · exact tX11_share_j27 X _ F S p1 p2 p3
    · refine j_aload_n 16 0 dX11_share_16 rfl rfl ?_
      refine j_getr (c2 := 6) (n2 := 0) 17 2 nX11_share_X11 rfl (by decide) (prs_mem (by decide) (by decide)) (by decide) (by decide) wX11_share_f22 (Or.inl rfl) rfl rfl rfl dX11_share_17 ?_
      refine j_iload_n 20 2 dX11_share_20 rfl rfl ?_
      refine j_callV_pi 21 rfl (by decide) (prs_mem (by decide) (by decide))  [.int p2] [] gX11_share_X7_has rfl eX7_has ⟨Nat.le_of_ble_eq_true rfl, Nat.le_of_ble_eq_true rfl⟩ rfl rfl (Nat.le_of_ble_eq_true rfl) dX11_share_21 (kX7_has S p2) (fun b_7 γ => ?_)
      refine j_if_eq 24 34 dX11_share_24 (by decide) (fun _ => ?_) (fun _ => ?_)
      · refine j_ldc2 (v := (-1)) 34 dX11_share_34 wX11_share_c242 ?_
        exact j_lret 37 rfl dX11_share_37
      · exact tX11_share_j27 X _ F S p1 p2 p3
set_option maxRecDepth 100000 in
set_option maxHeartbeats 4000000 in
theorem kX11_share {ad : Nat → Nat → Nat} (F : Nat) (S : St) (p1 : Int32) (p2 : Int32) (p3 : Int32) : ∀ b, fX11_share F S p1 p2 p3 = some b → ∀ l dC dI cy, CT l dC dI cy ad yX11_share wsX11_share 9 230 [.ref (ad 10 0), .int p1, .int p2, .int p3] S (some (.long b.1)) b.2 :=
  fun b hb l dC dI cy => ct_of (l := l) (dC := dC) (dI := dI) (cy := cy) outel (by decide) rfl (Nat.le_of_ble_eq_true rfl) rfl (fun X γ => tX11_share X γ F S p1 p2 p3) b hb
-- X11_small
theorem nX11_small_X4 : ∀ w ∈ u_ws RX4 TX4 17, w ∈ wsX11_small := by decide +kernel
theorem nX11_small_X11 : ∀ w ∈ u_ws RX11 TX11 9, w ∈ wsX11_small := by decide +kernel
theorem wX11_small_f29 : Cond.fieldLink RX11 29 "TwoTongues" "land" "LTwoTongues$Land;" ∈ wsX11_small := by decide +kernel
theorem wX11_small_c167 : Cond.constant RX11 167 (1000000) ∈ wsX11_small := by decide +kernel
theorem wX11_small_f239 : Cond.fieldLink RX11 239 "TwoTongues$Land" "sharedFrom" "[I" ∈ wsX11_small := by decide +kernel
theorem wX11_small_f38 : Cond.fieldLink RX11 38 "TwoTongues" "estate" "LTwoTongues$Estate;" ∈ wsX11_small := by decide +kernel
theorem wX11_small_f236 : Cond.fieldLink RX11 236 "TwoTongues$Land" "sharedKin" "[I" ∈ wsX11_small := by decide +kernel
set_option maxRecDepth 100000 in
set_option maxHeartbeats 4000000 in
theorem tX11_small_L60 {ad : Nat → Nat → Nat} (X : Ctx) (F : Nat) (x2 : Int32)   : ∀ (n : Nat) (γ : Nat → Nat) (x4 : Int32) (S : St), JJ X ad γ (RQm X ad 9 230 outei) (fcm outei) 9 230 cX11_small 5 RX11 wsX11_small (some .int) (fX11_small_L60 F x2 n x4 S) S 60 [(0, .ref (ad 10 0)), (2, .int x2), (4, .int x4)] [] := by
  intro n
  induction n with
  | zero => intro _ _ _; exact j_none
  | succ n ih =>
    intro γ x4 S
    rw [show fX11_small_L60 F x2 (n + 1) x4 S = fX11_small_b60 F x2 (fX11_small_L60 F x2 n) x4 S from rfl]
    unfold fX11_small_b60
    refine j_iload 60 2 dX11_small_60 rfl ?_
    refine j_sipush (v := 200) 62 dX11_small_62 (by decide) ?_
    refine j_icmp_gt 65 97 dX11_small_65 (by decide) (fun _ => ?_) (fun _ => ?_)
    · refine j_bipush (v := (-4)) 97 dX11_small_97 (by decide) ?_
      exact j_iret 99 rfl dX11_small_99
    · refine j_aload_n 68 0 dX11_small_68 rfl rfl ?_
      refine j_getr (c2 := 1) (n2 := 0) 69 4 nX11_small_X11 rfl (by decide) (prs_mem (by decide) (by decide)) (by decide) (by decide) wX11_small_f38 (Or.inl rfl) rfl rfl rfl dX11_small_69 ?_
      refine j_iload 72 2 dX11_small_72 rfl ?_
      refine j_callV_ev 74 rfl (by decide) (prs_mem (by decide) (by decide))  [.int x4] [] gX11_small_X1_pass rfl eX1_pass ⟨Nat.le_of_ble_eq_true rfl, Nat.le_of_ble_eq_true rfl⟩ rfl rfl (Nat.le_of_ble_eq_true rfl) dX11_small_74 (kX1_pass F S x4) (fun b_5 γ => ?_)
      refine j_aload_n 77 0 dX11_small_77 rfl rfl ?_
      refine j_getr (c2 := 1) (n2 := 0) 78 4 nX11_small_X11 rfl (by decide) (prs_mem (by decide) (by decide)) (by decide) (by decide) wX11_small_f38 (Or.inl rfl) rfl rfl rfl dX11_small_78 ?_
      refine j_iload_n 81 1 dX11_small_81 rfl rfl ?_
      refine j_callV_pi 82 rfl (by decide) (prs_mem (by decide) (by decide))  [.int x2] [] gX11_small_X1_hasLessThanOneOf rfl eX1_hasLessThanOneOf ⟨Nat.le_of_ble_eq_true rfl, Nat.le_of_ble_eq_true rfl⟩ rfl rfl (Nat.le_of_ble_eq_true rfl) dX11_small_82 (kX1_hasLessThanOneOf F b_5 x2) (fun b_6 γ => ?_)
      refine j_if_eq 85 91 dX11_small_85 (by decide) (fun _ => ?_) (fun _ => ?_)
      · refine j_iinc (v := x4 + 1) (lv2 := [(4, .int (x4 + 1)), (0, .ref (ad 10 0)), (2, .int x2)]) 91 2 dX11_small_91 rfl rfl (by decide) rfl ?_
        refine j_goto 94 60 dX11_small_94 (by decide) ?_
        refine j_sub [1, 2, 0] rfl ?_
        exact ih _ (x4 + 1) b_5
      · refine j_iload 88 2 dX11_small_88 rfl ?_
        exact j_iret 90 rfl dX11_small_90
set_option maxRecDepth 100000 in
set_option maxHeartbeats 4000000 in
theorem tX11_small {ad : Nat → Nat → Nat} (X : Ctx) (γ : Nat → Nat) (F : Nat) (S : St) (p1 : Int32) (p2 : Int32) : JJ X ad γ (RQm X ad 9 230 outei) (fcm outei) 9 230 cX11_small 5 RX11 wsX11_small (some .int) (fX11_small F S p1 p2) S 0 [(0, .ref (ad 10 0)), (1, .int p1), (2, .int p2)] [] := by
  unfold fX11_small
  refine j_aload_n 0 0 dX11_small_0 rfl rfl ?_
  refine j_getr (c2 := 4) (n2 := 0) 1 3 nX11_small_X11 rfl (by decide) (prs_mem (by decide) (by decide)) (by decide) (by decide) wX11_small_f29 (Or.inl rfl) rfl rfl rfl dX11_small_1 ?_
  refine j_iload_n 4 1 dX11_small_4 rfl rfl ?_
  refine j_callV_pi 5 rfl (by decide) (prs_mem (by decide) (by decide))  [.int p1] [] gX11_small_X4_has rfl eX4_has ⟨Nat.le_of_ble_eq_true rfl, Nat.le_of_ble_eq_true rfl⟩ rfl rfl (Nat.le_of_ble_eq_true rfl) dX11_small_5 (kX4_has S p1) (fun b_1 γ => ?_)
  refine j_if_eq 8 21 dX11_small_8 (by decide) (fun _ => ?_) (fun _ => ?_)
  · refine j_iconst (v := (-1)) 21 dX11_small_21 (by decide) ?_
    exact j_iret 22 rfl dX11_small_22
  · refine j_iload_n 11 2 dX11_small_11 rfl rfl ?_
    refine j_iconst (v := 1) 12 dX11_small_12 (by decide) ?_
    refine j_ldc (v := 1000000) 13 dX11_small_13 wX11_small_c167 ?_
    refine j_callS_pi 15  [.int p2, .int 1, .int 1000000] [] gX11_small_X11_within rfl eX11_within ⟨Nat.le_of_ble_eq_true rfl, Nat.le_of_ble_eq_true rfl⟩ rfl rfl (Nat.le_of_ble_eq_true rfl) dX11_small_15 (kX11_within S p2 1 1000000) (fun b_2 γ => ?_)
    refine j_if_ne 18 23 dX11_small_18 (by decide) (fun _ => ?_) (fun _ => ?_)
    · refine j_aload_n 23 0 dX11_small_23 rfl rfl ?_
      refine j_getr (c2 := 4) (n2 := 0) 24 3 nX11_small_X11 rfl (by decide) (prs_mem (by decide) (by decide)) (by decide) (by decide) wX11_small_f29 (Or.inl rfl) rfl rfl rfl dX11_small_24 ?_
      refine j_getr (c2 := 22) (n2 := 0) 27 2 nX11_small_X4 rfl (by decide) (prs_mem (by decide) (by decide)) (by decide) (by decide) wX11_small_f239 (Or.inl rfl) rfl rfl rfl dX11_small_27 ?_
      refine j_iload_n 30 1 dX11_small_30 rfl rfl ?_
      refine j_iald (c := 22) (n := 0) (L := 12) 31 (prs_mem (by decide) (by decide)) (by decide) rfl rfl rfl dX11_small_31 ?_
      refine j_bndi (fun x3_3 => ?_)
      refine j_istore_n (lv2 := [(3, .int x3_3), (0, .ref (ad 10 0)), (1, .int p1), (2, .int p2)]) 32 dX11_small_32 rfl (by decide) rfl ?_
      refine j_iload_n 33 0 dX11_small_33 rfl rfl ?_
      refine j_if_ge 34 40 dX11_small_34 (by decide) (fun _ => ?_) (fun _ => ?_)
      · refine j_aload_n 40 1 dX11_small_40 rfl rfl ?_
        refine j_getr (c2 := 1) (n2 := 0) 41 4 nX11_small_X11 rfl (by decide) (prs_mem (by decide) (by decide)) (by decide) (by decide) wX11_small_f38 (Or.inl rfl) rfl rfl rfl dX11_small_41 ?_
        refine j_aload_n 44 1 dX11_small_44 rfl rfl ?_
        refine j_getr (c2 := 4) (n2 := 0) 45 3 nX11_small_X11 rfl (by decide) (prs_mem (by decide) (by decide)) (by decide) (by decide) wX11_small_f29 (Or.inl rfl) rfl rfl rfl dX11_small_45 ?_
        refine j_getr (c2 := 21) (n2 := 0) 48 1 nX11_small_X4 rfl (by decide) (prs_mem (by decide) (by decide)) (by decide) (by decide) wX11_small_f236 (Or.inl rfl) rfl rfl rfl dX11_small_48 ?_
        refine j_iload_n 51 2 dX11_small_51 rfl rfl ?_
        refine j_iald (c := 21) (n := 0) (L := 12) 52 (prs_mem (by decide) (by decide)) (by decide) rfl rfl rfl dX11_small_52 ?_
        refine j_iload_n 53 0 dX11_small_53 rfl rfl ?_
        refine j_callV_ev 54 rfl (by decide) (prs_mem (by decide) (by decide))  [.int (gA S 21 0 p1.toNatClampNeg), .int x3_3] [] gX11_small_X1_open rfl eX1_open ⟨Nat.le_of_ble_eq_true rfl, Nat.le_of_ble_eq_true rfl⟩ rfl rfl (Nat.le_of_ble_eq_true rfl) dX11_small_54 (kX1_open F S (gA S 21 0 p1.toNatClampNeg) x3_3) (fun b_4 γ => ?_)
        refine j_iload_n 57 0 dX11_small_57 rfl rfl ?_
        refine j_istore (lv2 := [(4, .int x3_3), (3, .int x3_3), (0, .ref (ad 10 0)), (1, .int p1), (2, .int p2)]) 58 dX11_small_58 (by decide) rfl ?_
        refine j_sub [2, 4, 0] rfl ?_
        exact tX11_small_L60 X F p2 F _ x3_3 b_4
      · refine j_bipush (v := (-2)) 37 dX11_small_37 (by decide) ?_
        exact j_iret 39 rfl dX11_small_39
    · refine j_iconst (v := (-1)) 21 dX11_small_21 (by decide) ?_
      exact j_iret 22 rfl dX11_small_22
set_option maxRecDepth 100000 in
set_option maxHeartbeats 4000000 in
theorem kX11_small {ad : Nat → Nat → Nat} (F : Nat) (S : St) (p1 : Int32) (p2 : Int32) : ∀ b, fX11_small F S p1 p2 = some b → ∀ l dC dI cy, CT l dC dI cy ad yX11_small wsX11_small 9 230 [.ref (ad 10 0), .int p1, .int p2] S (some (.int b.1)) b.2 :=
  fun b hb l dC dI cy => ct_of (l := l) (dC := dC) (dI := dI) (cy := cy) outei (by decide) rfl (Nat.le_of_ble_eq_true rfl) rfl (fun X γ => tX11_small X γ F S p1 p2) b hb
-- X11_claim
theorem nX11_claim_X11 : ∀ w ∈ u_ws RX11 TX11 9, w ∈ wsX11_claim := by decide +kernel
theorem wX11_claim_f45 : Cond.fieldLink RX11 45 "TwoTongues" "claims" "LTwoTongues$Claims;" ∈ wsX11_claim := by decide +kernel
theorem wX11_claim_f22 : Cond.fieldLink RX11 22 "TwoTongues" "people" "LTwoTongues$People;" ∈ wsX11_claim := by decide +kernel
set_option maxRecDepth 100000 in
set_option maxHeartbeats 4000000 in
theorem tX11_claim_j63 {ad : Nat → Nat → Nat} (X : Ctx) (γ : Nat → Nat) (S : St) (x1 : Int32) (x2 : Int32) (x3 : Int32) (x4 : Int32) (x5 : Int32) (x6 : Int32) (s0 : Int32)   : JJ X ad γ (RQm X ad 2 43 outei) (fcm outei) 2 43 cX11_claim 8 RX11 wsX11_claim (some .int) (fX11_claim_j63 S x1 x2 x3 x4 x5 x6 s0) S 63 [(0, .ref (ad 10 0)), (1, .int x1), (2, .int x2), (3, .int x3), (4, .int x4), (5, .int x5), (6, .int x6)] [.int s0] := by
  unfold fX11_claim_j63
  refine j_istore (lv2 := [(7, .int s0), (0, .ref (ad 10 0)), (1, .int x1), (2, .int x2), (3, .int x3), (4, .int x4), (5, .int x5), (6, .int x6)]) 63 dX11_claim_63 (by decide) rfl ?_
  refine j_iload 65 0 dX11_claim_65 rfl ?_
  refine j_if_ne 67 72 dX11_claim_67 (by decide) (fun _ => ?_) (fun _ => ?_)
  · refine j_aload_n 72 1 dX11_claim_72 rfl rfl ?_
    refine j_getr (c2 := 0) (n2 := 0) 73 5 nX11_claim_X11 rfl (by decide) (prs_mem (by decide) (by decide)) (by decide) (by decide) wX11_claim_f45 (Or.inl rfl) rfl rfl rfl dX11_claim_73 ?_
    refine j_iload_n 76 2 dX11_claim_76 rfl rfl ?_
    refine j_iload_n 77 3 dX11_claim_77 rfl rfl ?_
    refine j_iload_n 78 4 dX11_claim_78 rfl rfl ?_
    refine j_iload 79 5 dX11_claim_79 rfl ?_
    refine j_iload 81 6 dX11_claim_81 rfl ?_
    refine j_iload 83 7 dX11_claim_83 rfl ?_
    refine j_callV_ei 85 rfl (by decide) (prs_mem (by decide) (by decide))  [.int x1, .int x2, .int x3, .int x4, .int x5, .int x6] [] gX11_claim_X0_add rfl eX0_add ⟨Nat.le_of_ble_eq_true rfl, Nat.le_of_ble_eq_true rfl⟩ rfl rfl (Nat.le_of_ble_eq_true rfl) dX11_claim_85 (kX0_add S x1 x2 x3 x4 x5 x6) (fun b_2 γ => ?_)
    exact j_iret 88 rfl dX11_claim_88
  · refine j_iconst (v := (-1)) 70 dX11_claim_70 (by decide) ?_
    exact j_iret 71 rfl dX11_claim_71
set_option maxRecDepth 100000 in
set_option maxHeartbeats 4000000 in
theorem tX11_claim_j62 {ad : Nat → Nat → Nat} (X : Ctx) (γ : Nat → Nat) (S : St) (x1 : Int32) (x2 : Int32) (x3 : Int32) (x4 : Int32) (x5 : Int32) (x6 : Int32)   : JJ X ad γ (RQm X ad 2 43 outei) (fcm outei) 2 43 cX11_claim 8 RX11 wsX11_claim (some .int) (fX11_claim_j62 S x1 x2 x3 x4 x5 x6) S 62 [(0, .ref (ad 10 0)), (1, .int x1), (2, .int x2), (3, .int x3), (4, .int x4), (5, .int x5), (6, .int x6)] [] := by
  unfold fX11_claim_j62
  refine j_iconst (v := 0) 62 dX11_claim_62 (by decide) ?_
  exact tX11_claim_j63 X _ S x1 x2 x3 x4 x5 x6 0
set_option maxRecDepth 100000 in
set_option maxHeartbeats 4000000 in
theorem tX11_claim {ad : Nat → Nat → Nat} (X : Ctx) (γ : Nat → Nat) (S : St) (p1 : Int32) (p2 : Int32) (p3 : Int32) (p4 : Int32) (p5 : Int32) (p6 : Int32) : JJ X ad γ (RQm X ad 2 43 outei) (fcm outei) 2 43 cX11_claim 8 RX11 wsX11_claim (some .int) (fX11_claim S p1 p2 p3 p4 p5 p6) S 0 [(0, .ref (ad 10 0)), (1, .int p1), (2, .int p2), (3, .int p3), (4, .int p4), (5, .int p5), (6, .int p6)] [] := by
  unfold fX11_claim
  refine j_iload_n 0 1 dX11_claim_0 rfl rfl ?_
  refine j_callS_pi 1  [.int p1] [] gX11_claim_X11_isKin rfl eX11_isKin ⟨Nat.le_of_ble_eq_true rfl, Nat.le_of_ble_eq_true rfl⟩ rfl rfl (Nat.le_of_ble_eq_true rfl) dX11_claim_1 (kX11_isKin S p1) (fun b_1 γ => ?_)
  refine j_if_eq 4 62 dX11_claim_4 (by decide) (fun _ => ?_) (fun _ => ?_)
  · exact tX11_claim_j62 X _ S p1 p2 p3 p4 p5 p6
  · refine j_iload_n 7 2 dX11_claim_7 rfl rfl ?_
    refine j_iconst (v := 1) 8 dX11_claim_8 (by decide) ?_
    refine j_bipush (v := 100) 9 dX11_claim_9 (by decide) ?_
    refine j_callS_pi 11  [.int p2, .int 1, .int 100] [] gX11_claim_X11_within rfl eX11_within ⟨Nat.le_of_ble_eq_true rfl, Nat.le_of_ble_eq_true rfl⟩ rfl rfl (Nat.le_of_ble_eq_true rfl) dX11_claim_11 (kX11_within S p2 1 100) (fun b_3 γ => ?_)
    refine j_if_eq 14 62 dX11_claim_14 (by decide) (fun _ => ?_) (fun _ => ?_)
    · exact tX11_claim_j62 X _ S p1 p2 p3 p4 p5 p6
    · refine j_aload_n 17 0 dX11_claim_17 rfl rfl ?_
      refine j_getr (c2 := 6) (n2 := 0) 18 2 nX11_claim_X11 rfl (by decide) (prs_mem (by decide) (by decide)) (by decide) (by decide) wX11_claim_f22 (Or.inl rfl) rfl rfl rfl dX11_claim_18 ?_
      refine j_iload_n 21 3 dX11_claim_21 rfl rfl ?_
      refine j_callV_pi 22 rfl (by decide) (prs_mem (by decide) (by decide))  [.int p3] [] gX11_claim_X7_has rfl eX7_has ⟨Nat.le_of_ble_eq_true rfl, Nat.le_of_ble_eq_true rfl⟩ rfl rfl (Nat.le_of_ble_eq_true rfl) dX11_claim_22 (kX7_has S p3) (fun b_4 γ => ?_)
      refine j_if_eq 25 62 dX11_claim_25 (by decide) (fun _ => ?_) (fun _ => ?_)
      · exact tX11_claim_j62 X _ S p1 p2 p3 p4 p5 p6
      · refine j_iload 28 4 dX11_claim_28 rfl ?_
        refine j_iconst (v := 1) 30 dX11_claim_30 (by decide) ?_
        refine j_iconst (v := 5) 31 dX11_claim_31 (by decide) ?_
        refine j_callS_pi 32  [.int p4, .int 1, .int 5] [] gX11_claim_X11_within rfl eX11_within ⟨Nat.le_of_ble_eq_true rfl, Nat.le_of_ble_eq_true rfl⟩ rfl rfl (Nat.le_of_ble_eq_true rfl) dX11_claim_32 (kX11_within S p4 1 5) (fun b_5 γ => ?_)
        refine j_if_eq 35 62 dX11_claim_35 (by decide) (fun _ => ?_) (fun _ => ?_)
        · exact tX11_claim_j62 X _ S p1 p2 p3 p4 p5 p6
        · refine j_iload 38 5 dX11_claim_38 rfl ?_
          refine j_callS_pi 40  [.int p5] [] gX11_claim_X11_isFactSet rfl eX11_isFactSet ⟨Nat.le_of_ble_eq_true rfl, Nat.le_of_ble_eq_true rfl⟩ rfl rfl (Nat.le_of_ble_eq_true rfl) dX11_claim_40 (kX11_isFactSet S p5) (fun b_6 γ => ?_)
          refine j_if_eq 43 62 dX11_claim_43 (by decide) (fun _ => ?_) (fun _ => ?_)
          · exact tX11_claim_j62 X _ S p1 p2 p3 p4 p5 p6
          · refine j_iload 46 6 dX11_claim_46 rfl ?_
            refine j_iconst (v := 1) 48 dX11_claim_48 (by decide) ?_
            refine j_sipush (v := 1000) 49 dX11_claim_49 (by decide) ?_
            refine j_callS_pi 52  [.int p6, .int 1, .int 1000] [] gX11_claim_X11_within rfl eX11_within ⟨Nat.le_of_ble_eq_true rfl, Nat.le_of_ble_eq_true rfl⟩ rfl rfl (Nat.le_of_ble_eq_true rfl) dX11_claim_52 (kX11_within S p6 1 1000) (fun b_7 γ => ?_)
            refine j_if_eq 55 62 dX11_claim_55 (by decide) (fun _ => ?_) (fun _ => ?_)
            · exact tX11_claim_j62 X _ S p1 p2 p3 p4 p5 p6
            · refine j_iconst (v := 1) 58 dX11_claim_58 (by decide) ?_
              refine j_goto 59 63 dX11_claim_59 (by decide) ?_
              exact tX11_claim_j63 X _ S p1 p2 p3 p4 p5 p6 1
set_option maxRecDepth 100000 in
set_option maxHeartbeats 4000000 in
theorem kX11_claim {ad : Nat → Nat → Nat} (S : St) (p1 : Int32) (p2 : Int32) (p3 : Int32) (p4 : Int32) (p5 : Int32) (p6 : Int32) : ∀ b, fX11_claim S p1 p2 p3 p4 p5 p6 = some b → ∀ l dC dI cy, CT l dC dI cy ad yX11_claim wsX11_claim 2 43 [.ref (ad 10 0), .int p1, .int p2, .int p3, .int p4, .int p5, .int p6] S (some (.int b.1)) b.2 :=
  fun b hb l dC dI cy => ct_of (l := l) (dC := dC) (dI := dI) (cy := cy) outei (by decide) rfl (Nat.le_of_ble_eq_true rfl) rfl (fun X γ => tX11_claim X γ S p1 p2 p3 p4 p5 p6) b hb
-- X11_founded
theorem nX11_founded_X11 : ∀ w ∈ u_ws RX11 TX11 9, w ∈ wsX11_founded := by decide +kernel
theorem wX11_founded_f45 : Cond.fieldLink RX11 45 "TwoTongues" "claims" "LTwoTongues$Claims;" ∈ wsX11_founded := by decide +kernel
set_option maxRecDepth 100000 in
set_option maxHeartbeats 4000000 in
theorem tX11_founded {ad : Nat → Nat → Nat} (X : Ctx) (γ : Nat → Nat) (F : Nat) (S : St) (p1 : Int32) : JJ X ad γ (RQm X ad 2 42 (outpi S)) (fcm (outpi S)) 2 42 cX11_founded 2 RX11 wsX11_founded (some .int) (fX11_founded F S p1) S 0 [(0, .ref (ad 10 0)), (1, .int p1)] [] := by
  unfold fX11_founded
  refine j_iload_n 0 1 dX11_founded_0 rfl rfl ?_
  refine j_callS_pi 1  [.int p1] [] gX11_founded_X11_isFactSet rfl eX11_isFactSet ⟨Nat.le_of_ble_eq_true rfl, Nat.le_of_ble_eq_true rfl⟩ rfl rfl (Nat.le_of_ble_eq_true rfl) dX11_founded_1 (kX11_isFactSet S p1) (fun b_1 γ => ?_)
  refine j_if_ne 4 9 dX11_founded_4 (by decide) (fun _ => ?_) (fun _ => ?_)
  · refine j_aload_n 9 0 dX11_founded_9 rfl rfl ?_
    refine j_getr (c2 := 0) (n2 := 0) 10 5 nX11_founded_X11 rfl (by decide) (prs_mem (by decide) (by decide)) (by decide) (by decide) wX11_founded_f45 (Or.inl rfl) rfl rfl rfl dX11_founded_10 ?_
    refine j_iload_n 13 1 dX11_founded_13 rfl rfl ?_
    refine j_callV_pi 14 rfl (by decide) (prs_mem (by decide) (by decide))  [.int p1] [] gX11_founded_X0_foundedBy rfl eX0_foundedBy ⟨Nat.le_of_ble_eq_true rfl, Nat.le_of_ble_eq_true rfl⟩ rfl rfl (Nat.le_of_ble_eq_true rfl) dX11_founded_14 (kX0_foundedBy F S p1) (fun b_2 γ => ?_)
    exact j_iret 17 rfl dX11_founded_17
  · refine j_iconst (v := (-1)) 7 dX11_founded_7 (by decide) ?_
    exact j_iret 8 rfl dX11_founded_8
set_option maxRecDepth 100000 in
set_option maxHeartbeats 4000000 in
theorem kX11_founded {ad : Nat → Nat → Nat} (F : Nat) (S : St) (p1 : Int32) : ∀ b, fX11_founded F S p1 = some b → ∀ l dC dI cy, CT l dC dI cy ad yX11_founded wsX11_founded 2 42 [.ref (ad 10 0), .int p1] S (some (.int b)) S :=
  fun b hb l dC dI cy => ct_of (l := l) (dC := dC) (dI := dI) (cy := cy) (outpi S) (by decide) rfl (Nat.le_of_ble_eq_true rfl) rfl (fun X γ => tX11_founded X γ F S p1) b hb
-- X11_falls
theorem nX11_falls_X11 : ∀ w ∈ u_ws RX11 TX11 9, w ∈ wsX11_falls := by decide +kernel
theorem wX11_falls_f45 : Cond.fieldLink RX11 45 "TwoTongues" "claims" "LTwoTongues$Claims;" ∈ wsX11_falls := by decide +kernel
set_option maxRecDepth 100000 in
set_option maxHeartbeats 4000000 in
theorem tX11_falls {ad : Nat → Nat → Nat} (X : Ctx) (γ : Nat → Nat) (F : Nat) (S : St) (p1 : Int32) (p2 : Int32) : JJ X ad γ (RQm X ad 2 42 (outpi S)) (fcm (outpi S)) 2 42 cX11_falls 3 RX11 wsX11_falls (some .int) (fX11_falls F S p1 p2) S 0 [(0, .ref (ad 10 0)), (1, .int p1), (2, .int p2)] [] := by
  unfold fX11_falls
  refine j_iload_n 0 1 dX11_falls_0 rfl rfl ?_
  refine j_callS_pi 1  [.int p1] [] gX11_falls_X11_isFactSet rfl eX11_isFactSet ⟨Nat.le_of_ble_eq_true rfl, Nat.le_of_ble_eq_true rfl⟩ rfl rfl (Nat.le_of_ble_eq_true rfl) dX11_falls_1 (kX11_isFactSet S p1) (fun b_1 γ => ?_)
  refine j_if_eq 4 17 dX11_falls_4 (by decide) (fun _ => ?_) (fun _ => ?_)
  · refine j_iconst (v := (-1)) 17 dX11_falls_17 (by decide) ?_
    exact j_iret 18 rfl dX11_falls_18
  · refine j_iload_n 7 2 dX11_falls_7 rfl rfl ?_
    refine j_iconst (v := 0) 8 dX11_falls_8 (by decide) ?_
    refine j_bipush (v := 7) 9 dX11_falls_9 (by decide) ?_
    refine j_callS_pi 11  [.int p2, .int 0, .int 7] [] gX11_falls_X11_within rfl eX11_within ⟨Nat.le_of_ble_eq_true rfl, Nat.le_of_ble_eq_true rfl⟩ rfl rfl (Nat.le_of_ble_eq_true rfl) dX11_falls_11 (kX11_within S p2 0 7) (fun b_2 γ => ?_)
    refine j_if_ne 14 19 dX11_falls_14 (by decide) (fun _ => ?_) (fun _ => ?_)
    · refine j_aload_n 19 0 dX11_falls_19 rfl rfl ?_
      refine j_getr (c2 := 0) (n2 := 0) 20 5 nX11_falls_X11 rfl (by decide) (prs_mem (by decide) (by decide)) (by decide) (by decide) wX11_falls_f45 (Or.inl rfl) rfl rfl rfl dX11_falls_20 ?_
      refine j_iload_n 23 1 dX11_falls_23 rfl rfl ?_
      refine j_callV_pi 24 rfl (by decide) (prs_mem (by decide) (by decide))  [.int p1] [] gX11_falls_X0_foundedBy rfl eX0_foundedBy ⟨Nat.le_of_ble_eq_true rfl, Nat.le_of_ble_eq_true rfl⟩ rfl rfl (Nat.le_of_ble_eq_true rfl) dX11_falls_24 (kX0_foundedBy F S p1) (fun b_3 γ => ?_)
      refine j_aload_n 27 0 dX11_falls_27 rfl rfl ?_
      refine j_getr (c2 := 0) (n2 := 0) 28 5 nX11_falls_X11 rfl (by decide) (prs_mem (by decide) (by decide)) (by decide) (by decide) wX11_falls_f45 (Or.inl rfl) rfl rfl rfl dX11_falls_28 ?_
      refine j_sipush (v := 255) 31 dX11_falls_31 (by decide) ?_
      refine j_iconst (v := 1) 34 dX11_falls_34 (by decide) ?_
      refine j_iload_n 35 2 dX11_falls_35 rfl rfl ?_
      refine j_ishl 36 dX11_falls_36 ?_
      refine j_isub 37 dX11_falls_37 ?_
      refine j_callV_pi 38 rfl (by decide) (prs_mem (by decide) (by decide))  [.int ((255 : Int32) - ((1 : Int32) <<< (p2 &&& 31)))] [.int b_3] gX11_falls_X0_foundedBy rfl eX0_foundedBy ⟨Nat.le_of_ble_eq_true rfl, Nat.le_of_ble_eq_true rfl⟩ rfl rfl (Nat.le_of_ble_eq_true rfl) dX11_falls_38 (kX0_foundedBy F S ((255 : Int32) - ((1 : Int32) <<< (p2 &&& 31)))) (fun b_4 γ => ?_)
      refine j_iconst (v := (-1)) 41 dX11_falls_41 (by decide) ?_
      refine j_ixor 42 dX11_falls_42 ?_
      refine j_iand 43 dX11_falls_43 ?_
      exact j_iret 44 rfl dX11_falls_44
    · refine j_iconst (v := (-1)) 17 dX11_falls_17 (by decide) ?_
      exact j_iret 18 rfl dX11_falls_18
set_option maxRecDepth 100000 in
set_option maxHeartbeats 4000000 in
theorem kX11_falls {ad : Nat → Nat → Nat} (F : Nat) (S : St) (p1 : Int32) (p2 : Int32) : ∀ b, fX11_falls F S p1 p2 = some b → ∀ l dC dI cy, CT l dC dI cy ad yX11_falls wsX11_falls 2 42 [.ref (ad 10 0), .int p1, .int p2] S (some (.int b)) S :=
  fun b hb l dC dI cy => ct_of (l := l) (dC := dC) (dI := dI) (cy := cy) (outpi S) (by decide) rfl (Nat.le_of_ble_eq_true rfl) rfl (fun X γ => tX11_falls X γ F S p1 p2) b hb
-- X11_hear
theorem nX11_hear_X11 : ∀ w ∈ u_ws RX11 TX11 9, w ∈ wsX11_hear := by decide +kernel
theorem wX11_hear_f54 : Cond.fieldLink RX11 54 "TwoTongues" "hearings" "LTwoTongues$Hearings;" ∈ wsX11_hear := by decide +kernel
theorem wX11_hear_f45 : Cond.fieldLink RX11 45 "TwoTongues" "claims" "LTwoTongues$Claims;" ∈ wsX11_hear := by decide +kernel
set_option maxRecDepth 100000 in
set_option maxHeartbeats 4000000 in
theorem tX11_hear {ad : Nat → Nat → Nat} (X : Ctx) (γ : Nat → Nat) (F : Nat) (S : St) (p1 : Int32) (p2 : Int32) : JJ X ad γ (RQm X ad 6 134 outei) (fcm outei) 6 134 cX11_hear 4 RX11 wsX11_hear (some .int) (fX11_hear F S p1 p2) S 0 [(0, .ref (ad 10 0)), (1, .int p1), (2, .int p2)] [] := by
  unfold fX11_hear
  refine j_iload_n 0 1 dX11_hear_0 rfl rfl ?_
  refine j_callS_pi 1  [.int p1] [] gX11_hear_X11_isYear rfl eX11_isYear ⟨Nat.le_of_ble_eq_true rfl, Nat.le_of_ble_eq_true rfl⟩ rfl rfl (Nat.le_of_ble_eq_true rfl) dX11_hear_1 (kX11_isYear S p1) (fun b_1 γ => ?_)
  refine j_if_eq 4 12 dX11_hear_4 (by decide) (fun _ => ?_) (fun _ => ?_)
  · refine j_iconst (v := (-1)) 12 dX11_hear_12 (by decide) ?_
    exact j_iret 13 rfl dX11_hear_13
  · refine j_iload_n 7 2 dX11_hear_7 rfl rfl ?_
    refine j_iconst (v := (-1)) 8 dX11_hear_8 (by decide) ?_
    refine j_icmp_ge 9 14 dX11_hear_9 (by decide) (fun _ => ?_) (fun _ => ?_)
    · refine j_aload_n 14 0 dX11_hear_14 rfl rfl ?_
      refine j_getr (c2 := 2) (n2 := 0) 15 6 nX11_hear_X11 rfl (by decide) (prs_mem (by decide) (by decide)) (by decide) (by decide) wX11_hear_f54 (Or.inl rfl) rfl rfl rfl dX11_hear_15 ?_
      refine j_iload_n 18 1 dX11_hear_18 rfl rfl ?_
      refine j_callV_ei 19 rfl (by decide) (prs_mem (by decide) (by decide))  [.int p1] [] gX11_hear_X2_arrangeFrom rfl eX2_arrangeFrom ⟨Nat.le_of_ble_eq_true rfl, Nat.le_of_ble_eq_true rfl⟩ rfl rfl (Nat.le_of_ble_eq_true rfl) dX11_hear_19 (kX2_arrangeFrom F S p1) (fun b_2 γ => ?_)
      refine j_istore_n (lv2 := [(3, .int b_2.1), (0, .ref (ad 10 0)), (1, .int p1), (2, .int p2)]) 22 dX11_hear_22 rfl (by decide) rfl ?_
      refine j_iload_n 23 3 dX11_hear_23 rfl rfl ?_
      refine j_iconst (v := (-1)) 24 dX11_hear_24 (by decide) ?_
      refine j_icmp_ne 25 40 dX11_hear_25 (by decide) (fun _ => ?_) (fun _ => ?_)
      · refine j_aload_n 40 1 dX11_hear_40 rfl rfl ?_
        refine j_getr (c2 := 2) (n2 := 0) 41 6 nX11_hear_X11 rfl (by decide) (prs_mem (by decide) (by decide)) (by decide) (by decide) wX11_hear_f54 (Or.inl rfl) rfl rfl rfl dX11_hear_41 ?_
        refine j_iload_n 44 3 dX11_hear_44 rfl rfl ?_
        refine j_callU_pi 45 rfl (by decide) (prs_mem (by decide) (by decide))  [.int p2] [] (n := 1) (owner := "TwoTongues$Order") (x := ⟨"TwoTongues$Hearings", "claimAt", "(I)I"⟩) gX11_hear_X5_claimAt_u276X2 rfl rfl (by decide +kernel) ⟨Nat.le_of_ble_eq_true rfl, Nat.le_of_ble_eq_true rfl⟩ rfl rfl (Nat.le_of_ble_eq_true rfl) dX11_hear_45 (kX5_claimAt_h F b_2.2 p2) (fun b_3 γ => ?_)
        exact j_iret 48 rfl dX11_hear_48
      · refine j_aload_n 28 1 dX11_hear_28 rfl rfl ?_
        refine j_getr (c2 := 0) (n2 := 0) 29 5 nX11_hear_X11 rfl (by decide) (prs_mem (by decide) (by decide)) (by decide) (by decide) wX11_hear_f45 (Or.inl rfl) rfl rfl rfl dX11_hear_29 ?_
        refine j_callV_pi 32 rfl (by decide) (prs_mem (by decide) (by decide))  [] [] gX11_hear_X0_allWeights rfl eX0_allWeights ⟨Nat.le_of_ble_eq_true rfl, Nat.le_of_ble_eq_true rfl⟩ rfl rfl (Nat.le_of_ble_eq_true rfl) dX11_hear_32 (kX0_allWeights F b_2.2) (fun b_4 γ => ?_)
        refine j_iload_n 35 0 dX11_hear_35 rfl rfl ?_
        refine j_isub 36 dX11_hear_36 ?_
        refine j_goto 37 48 dX11_hear_37 (by decide) ?_
        exact j_iret 48 rfl dX11_hear_48
    · refine j_iconst (v := (-1)) 12 dX11_hear_12 (by decide) ?_
      exact j_iret 13 rfl dX11_hear_13
set_option maxRecDepth 100000 in
set_option maxHeartbeats 4000000 in
theorem kX11_hear {ad : Nat → Nat → Nat} (F : Nat) (S : St) (p1 : Int32) (p2 : Int32) : ∀ b, fX11_hear F S p1 p2 = some b → ∀ l dC dI cy, CT l dC dI cy ad yX11_hear wsX11_hear 6 134 [.ref (ad 10 0), .int p1, .int p2] S (some (.int b.1)) b.2 :=
  fun b hb l dC dI cy => ct_of (l := l) (dC := dC) (dI := dI) (cy := cy) outei (by decide) rfl (Nat.le_of_ble_eq_true rfl) rfl (fun X γ => tX11_hear X γ F S p1 p2) b hb
-- X11_left
theorem nX11_left_X0 : ∀ w ∈ u_ws RX0 TX0 7, w ∈ wsX11_left := by decide +kernel
theorem nX11_left_X11 : ∀ w ∈ u_ws RX11 TX11 9, w ∈ wsX11_left := by decide +kernel
theorem wX11_left_f45 : Cond.fieldLink RX11 45 "TwoTongues" "claims" "LTwoTongues$Claims;" ∈ wsX11_left := by decide +kernel
theorem wX11_left_f279 : Cond.fieldLink RX11 279 "TwoTongues$Claims" "size" "I" ∈ wsX11_left := by decide +kernel
theorem wX11_left_f29 : Cond.fieldLink RX11 29 "TwoTongues" "land" "LTwoTongues$Land;" ∈ wsX11_left := by decide +kernel
theorem wX11_left_f282 : Cond.fieldLink RX11 282 "TwoTongues$Claims" "kin" "[I" ∈ wsX11_left := by decide +kernel
set_option maxRecDepth 100000 in
set_option maxHeartbeats 4000000 in
theorem tX11_left {ad : Nat → Nat → Nat} (X : Ctx) (γ : Nat → Nat) (F : Nat) (S : St) (p1 : Int32) (p2 : Int32) (p3 : Int32) : JJ X ad γ (RQm X ad 6 146 (outpi S)) (fcm (outpi S)) 6 146 cX11_left 4 RX11 wsX11_left (some .int) (fX11_left F S p1 p2 p3) S 0 [(0, .ref (ad 10 0)), (1, .int p1), (2, .int p2), (3, .int p3)] [] := by
  unfold fX11_left
  refine j_iload_n 0 1 dX11_left_0 rfl rfl ?_
  refine j_iconst (v := 0) 1 dX11_left_1 (by decide) ?_
  refine j_aload_n 2 0 dX11_left_2 rfl rfl ?_
  refine j_getr (c2 := 0) (n2 := 0) 3 5 nX11_left_X11 rfl (by decide) (prs_mem (by decide) (by decide)) (by decide) (by decide) wX11_left_f45 (Or.inl rfl) rfl rfl rfl dX11_left_3 ?_
  refine j_geti 6 6 nX11_left_X0 rfl (by decide) (prs_mem (by decide) (by decide)) (by decide) (by decide) wX11_left_f279 (Or.inl rfl) rfl dX11_left_6 ?_
  refine j_iconst (v := 1) 9 dX11_left_9 (by decide) ?_
  refine j_isub 10 dX11_left_10 ?_
  refine j_callS_pi 11  [.int p1, .int 0, .int ((gI S 0 0 6) - 1)] [] gX11_left_X11_within rfl eX11_within ⟨Nat.le_of_ble_eq_true rfl, Nat.le_of_ble_eq_true rfl⟩ rfl rfl (Nat.le_of_ble_eq_true rfl) dX11_left_11 (kX11_within S p1 0 ((gI S 0 0 6) - 1)) (fun b_1 γ => ?_)
  refine j_if_eq 14 24 dX11_left_14 (by decide) (fun _ => ?_) (fun _ => ?_)
  · refine j_iconst (v := (-1)) 24 dX11_left_24 (by decide) ?_
    exact j_iret 25 rfl dX11_left_25
  · refine j_iload_n 17 2 dX11_left_17 rfl rfl ?_
    refine j_callS_pi 18  [.int p2] [] gX11_left_X11_isYear rfl eX11_isYear ⟨Nat.le_of_ble_eq_true rfl, Nat.le_of_ble_eq_true rfl⟩ rfl rfl (Nat.le_of_ble_eq_true rfl) dX11_left_18 (kX11_isYear S p2) (fun b_2 γ => ?_)
    refine j_if_ne 21 26 dX11_left_21 (by decide) (fun _ => ?_) (fun _ => ?_)
    · refine j_aload_n 26 0 dX11_left_26 rfl rfl ?_
      refine j_getr (c2 := 4) (n2 := 0) 27 3 nX11_left_X11 rfl (by decide) (prs_mem (by decide) (by decide)) (by decide) (by decide) wX11_left_f29 (Or.inl rfl) rfl rfl rfl dX11_left_27 ?_
      refine j_aload_n 30 0 dX11_left_30 rfl rfl ?_
      refine j_getr (c2 := 0) (n2 := 0) 31 5 nX11_left_X11 rfl (by decide) (prs_mem (by decide) (by decide)) (by decide) (by decide) wX11_left_f45 (Or.inl rfl) rfl rfl rfl dX11_left_31 ?_
      refine j_getr (c2 := 12) (n2 := 0) 34 0 nX11_left_X0 rfl (by decide) (prs_mem (by decide) (by decide)) (by decide) (by decide) wX11_left_f282 (Or.inl rfl) rfl rfl rfl dX11_left_34 ?_
      refine j_iload_n 37 1 dX11_left_37 rfl rfl ?_
      refine j_iald (c := 12) (n := 0) (L := 9) 38 (prs_mem (by decide) (by decide)) (by decide) rfl rfl rfl dX11_left_38 ?_
      refine j_iload_n 39 2 dX11_left_39 rfl rfl ?_
      refine j_iload_n 40 3 dX11_left_40 rfl rfl ?_
      refine j_callV_pi 41 rfl (by decide) (prs_mem (by decide) (by decide))  [.int (gA S 12 0 p1.toNatClampNeg), .int p2, .int p3] [] gX11_left_X4_worthLeft rfl eX4_worthLeft ⟨Nat.le_of_ble_eq_true rfl, Nat.le_of_ble_eq_true rfl⟩ rfl rfl (Nat.le_of_ble_eq_true rfl) dX11_left_41 (kX4_worthLeft F S (gA S 12 0 p1.toNatClampNeg) p2 p3) (fun b_3 γ => ?_)
      exact j_iret 44 rfl dX11_left_44
    · refine j_iconst (v := (-1)) 24 dX11_left_24 (by decide) ?_
      exact j_iret 25 rfl dX11_left_25
set_option maxRecDepth 100000 in
set_option maxHeartbeats 4000000 in
theorem kX11_left {ad : Nat → Nat → Nat} (F : Nat) (S : St) (p1 : Int32) (p2 : Int32) (p3 : Int32) : ∀ b, fX11_left F S p1 p2 p3 = some b → ∀ l dC dI cy, CT l dC dI cy ad yX11_left wsX11_left 6 146 [.ref (ad 10 0), .int p1, .int p2, .int p3] S (some (.int b)) S :=
  fun b hb l dC dI cy => ct_of (l := l) (dC := dC) (dI := dI) (cy := cy) (outpi S) (by decide) rfl (Nat.le_of_ble_eq_true rfl) rfl (fun X γ => tX11_left X γ F S p1 p2 p3) b hb
-- X11_cousins
theorem nX11_cousins_X11 : ∀ w ∈ u_ws RX11 TX11 9, w ∈ wsX11_cousins := by decide +kernel
theorem wX11_cousins_f22 : Cond.fieldLink RX11 22 "TwoTongues" "people" "LTwoTongues$People;" ∈ wsX11_cousins := by decide +kernel
set_option maxRecDepth 100000 in
set_option maxHeartbeats 4000000 in
theorem tX11_cousins {ad : Nat → Nat → Nat} (X : Ctx) (γ : Nat → Nat) (F : Nat) (S : St) (p1 : Int32) (p2 : Int32) : JJ X ad γ (RQm X ad 2 45 (outpi S)) (fcm (outpi S)) 2 45 cX11_cousins 3 RX11 wsX11_cousins (some .int) (fX11_cousins F S p1 p2) S 0 [(0, .ref (ad 10 0)), (1, .int p1), (2, .int p2)] [] := by
  unfold fX11_cousins
  refine j_iload_n 0 1 dX11_cousins_0 rfl rfl ?_
  refine j_callS_pi 1  [.int p1] [] gX11_cousins_X11_isKin rfl eX11_isKin ⟨Nat.le_of_ble_eq_true rfl, Nat.le_of_ble_eq_true rfl⟩ rfl rfl (Nat.le_of_ble_eq_true rfl) dX11_cousins_1 (kX11_isKin S p1) (fun b_1 γ => ?_)
  refine j_if_eq 4 19 dX11_cousins_4 (by decide) (fun _ => ?_) (fun _ => ?_)
  · refine j_iconst (v := (-1)) 19 dX11_cousins_19 (by decide) ?_
    exact j_iret 20 rfl dX11_cousins_20
  · refine j_iload_n 7 2 dX11_cousins_7 rfl rfl ?_
    refine j_callS_pi 8  [.int p2] [] gX11_cousins_X11_isKin rfl eX11_isKin ⟨Nat.le_of_ble_eq_true rfl, Nat.le_of_ble_eq_true rfl⟩ rfl rfl (Nat.le_of_ble_eq_true rfl) dX11_cousins_8 (kX11_isKin S p2) (fun b_2 γ => ?_)
    refine j_if_eq 11 19 dX11_cousins_11 (by decide) (fun _ => ?_) (fun _ => ?_)
    · refine j_iconst (v := (-1)) 19 dX11_cousins_19 (by decide) ?_
      exact j_iret 20 rfl dX11_cousins_20
    · refine j_iload_n 14 1 dX11_cousins_14 rfl rfl ?_
      refine j_iload_n 15 2 dX11_cousins_15 rfl rfl ?_
      refine j_icmp_ne 16 21 dX11_cousins_16 (by decide) (fun _ => ?_) (fun _ => ?_)
      · refine j_aload_n 21 0 dX11_cousins_21 rfl rfl ?_
        refine j_getr (c2 := 6) (n2 := 0) 22 2 nX11_cousins_X11 rfl (by decide) (prs_mem (by decide) (by decide)) (by decide) (by decide) wX11_cousins_f22 (Or.inl rfl) rfl rfl rfl dX11_cousins_22 ?_
        refine j_iload_n 25 1 dX11_cousins_25 rfl rfl ?_
        refine j_iload_n 26 2 dX11_cousins_26 rfl rfl ?_
        refine j_callV_pi 27 rfl (by decide) (prs_mem (by decide) (by decide))  [.int p1, .int p2] [] gX11_cousins_X7_ofBoth rfl eX7_ofBoth ⟨Nat.le_of_ble_eq_true rfl, Nat.le_of_ble_eq_true rfl⟩ rfl rfl (Nat.le_of_ble_eq_true rfl) dX11_cousins_27 (kX7_ofBoth F S p1 p2) (fun b_3 γ => ?_)
        exact j_iret 30 rfl dX11_cousins_30
      · refine j_iconst (v := (-1)) 19 dX11_cousins_19 (by decide) ?_
        exact j_iret 20 rfl dX11_cousins_20
set_option maxRecDepth 100000 in
set_option maxHeartbeats 4000000 in
theorem kX11_cousins {ad : Nat → Nat → Nat} (F : Nat) (S : St) (p1 : Int32) (p2 : Int32) : ∀ b, fX11_cousins F S p1 p2 = some b → ∀ l dC dI cy, CT l dC dI cy ad yX11_cousins wsX11_cousins 2 45 [.ref (ad 10 0), .int p1, .int p2] S (some (.int b)) S :=
  fun b hb l dC dI cy => ct_of (l := l) (dC := dC) (dI := dI) (cy := cy) (outpi S) (by decide) rfl (Nat.le_of_ble_eq_true rfl) rfl (fun X γ => tX11_cousins X γ F S p1 p2) b hb
-- X11_settled
theorem nX11_settled_X11 : ∀ w ∈ u_ws RX11 TX11 9, w ∈ wsX11_settled := by decide +kernel
theorem wX11_settled_c292 : Cond.constant RX11 292 (1000000000) ∈ wsX11_settled := by decide +kernel
theorem wX11_settled_f22 : Cond.fieldLink RX11 22 "TwoTongues" "people" "LTwoTongues$People;" ∈ wsX11_settled := by decide +kernel
set_option maxRecDepth 100000 in
set_option maxHeartbeats 4000000 in
theorem tX11_settled_L39 {ad : Nat → Nat → Nat} (X : Ctx) (F : Nat) (S : St) (x1 : Int32) (x2 : Int32) (x3 : Int32) (k97 : Int32 → Int32 → Option Int32)  (hk97 : ∀ (γ : Nat → Nat) (x4 : Int32) (x5 : Int32), JJ X ad γ (RQm X ad 2 43 (outpi S)) (fcm (outpi S)) 2 43 cX11_settled 8 RX11 wsX11_settled (some .int) (k97 x4 x5) S 97 [(3, .int x3), (4, .int x4), (5, .int x5)] []) : ∀ (n : Nat) (γ : Nat → Nat) (x4 : Int32) (x5 : Int32) (x6 : Int32), JJ X ad γ (RQm X ad 2 43 (outpi S)) (fcm (outpi S)) 2 43 cX11_settled 8 RX11 wsX11_settled (some .int) (fX11_settled_L39 F S x1 x2 x3 k97 n x4 x5 x6) S 39 [(0, .ref (ad 10 0)), (1, .int x1), (2, .int x2), (3, .int x3), (4, .int x4), (5, .int x5), (6, .int x6)] [] := by
  intro n
  induction n with
  | zero => intro _ _ _ _; exact j_none
  | succ n ih =>
    intro γ x4 x5 x6
    rw [show fX11_settled_L39 F S x1 x2 x3 k97 (n + 1) x4 x5 x6 = fX11_settled_b39 F S x1 x2 x3 k97 (fX11_settled_L39 F S x1 x2 x3 k97 n) x4 x5 x6 from rfl]
    unfold fX11_settled_b39
    refine j_iload 39 6 dX11_settled_39 rfl ?_
    refine j_sipush (v := 1024) 41 dX11_settled_41 (by decide) ?_
    refine j_icmp_ge 44 97 dX11_settled_44 (by decide) (fun _ => ?_) (fun _ => ?_)
    · refine j_sub [3, 4, 5] rfl ?_
      exact hk97 _ x4 x5
    · refine j_iload 47 6 dX11_settled_47 rfl ?_
      refine j_iload_n 49 1 dX11_settled_49 rfl rfl ?_
      refine j_callS_pi 50  [.int x6, .int x1] [] gX11_settled_X11_hasBit rfl eX11_hasBit ⟨Nat.le_of_ble_eq_true rfl, Nat.le_of_ble_eq_true rfl⟩ rfl rfl (Nat.le_of_ble_eq_true rfl) dX11_settled_50 (kX11_hasBit S x6 x1) (fun b_4 γ => ?_)
      refine j_if_eq 53 91 dX11_settled_53 (by decide) (fun _ => ?_) (fun _ => ?_)
      · refine j_iinc (v := x6 + 1) (lv2 := [(6, .int (x6 + 1)), (0, .ref (ad 10 0)), (1, .int x1), (2, .int x2), (3, .int x3), (4, .int x4), (5, .int x5)]) 91 6 dX11_settled_91 rfl rfl (by decide) rfl ?_
        refine j_goto 94 39 dX11_settled_94 (by decide) ?_
        refine j_sub [1, 2, 3, 4, 5, 6, 0] rfl ?_
        exact ih _ x4 x5 (x6 + 1)
      · refine j_iload 56 6 dX11_settled_56 rfl ?_
        refine j_callS_pi 58  [.int x6] [] gX11_settled_J6_bitCount_0f7a4 rfl eJ6_bitCount_0f7a4 ⟨Nat.le_of_ble_eq_true rfl, Nat.le_of_ble_eq_true rfl⟩ rfl rfl (Nat.le_of_ble_eq_true rfl) dX11_settled_58 (kJ6_bitCount_0f7a4 S x6) (fun b_5 γ => ?_)
        refine j_iload_n 61 2 dX11_settled_61 rfl rfl ?_
        refine j_icmp_ne 62 91 dX11_settled_62 (by decide) (fun _ => ?_) (fun _ => ?_)
        · refine j_iinc (v := x6 + 1) (lv2 := [(6, .int (x6 + 1)), (0, .ref (ad 10 0)), (1, .int x1), (2, .int x2), (3, .int x3), (4, .int x4), (5, .int x5)]) 91 6 dX11_settled_91 rfl rfl (by decide) rfl ?_
          refine j_goto 94 39 dX11_settled_94 (by decide) ?_
          refine j_sub [1, 2, 3, 4, 5, 6, 0] rfl ?_
          exact ih _ x4 x5 (x6 + 1)
        · refine j_aload_n 65 0 dX11_settled_65 rfl rfl ?_
          refine j_getr (c2 := 6) (n2 := 0) 66 2 nX11_settled_X11 rfl (by decide) (prs_mem (by decide) (by decide)) (by decide) (by decide) wX11_settled_f22 (Or.inl rfl) rfl rfl rfl dX11_settled_66 ?_
          refine j_iload 69 6 dX11_settled_69 rfl ?_
          refine j_callV_pi 71 rfl (by decide) (prs_mem (by decide) (by decide))  [.int x6] [] gX11_settled_X7_cousinsCut rfl eX7_cousinsCut ⟨Nat.le_of_ble_eq_true rfl, Nat.le_of_ble_eq_true rfl⟩ rfl rfl (Nat.le_of_ble_eq_true rfl) dX11_settled_71 (kX7_cousinsCut F S x6) (fun b_6 γ => ?_)
          refine j_istore (lv2 := [(7, .int b_6), (0, .ref (ad 10 0)), (1, .int x1), (2, .int x2), (3, .int x3), (4, .int x4), (5, .int x5), (6, .int x6)]) 74 dX11_settled_74 (by decide) rfl ?_
          refine j_iload 76 0 dX11_settled_76 rfl ?_
          refine j_iload 78 6 dX11_settled_78 rfl ?_
          refine j_icmp_ge 80 91 dX11_settled_80 (by decide) (fun _ => ?_) (fun _ => ?_)
          · refine j_iinc (v := x6 + 1) (lv2 := [(6, .int (x6 + 1)), (7, .int b_6), (0, .ref (ad 10 0)), (1, .int x1), (2, .int x2), (3, .int x3), (4, .int x4), (5, .int x5)]) 91 7 dX11_settled_91 rfl rfl (by decide) rfl ?_
            refine j_goto 94 39 dX11_settled_94 (by decide) ?_
            refine j_sub [2, 3, 4, 5, 6, 7, 0] rfl ?_
            exact ih _ x4 x5 (x6 + 1)
          · refine j_iload 83 0 dX11_settled_83 rfl ?_
            refine j_istore (lv2 := [(5, .int b_6), (7, .int b_6), (0, .ref (ad 10 0)), (1, .int x1), (2, .int x2), (3, .int x3), (4, .int x4), (6, .int x6)]) 85 dX11_settled_85 (by decide) rfl ?_
            refine j_iload 87 7 dX11_settled_87 rfl ?_
            refine j_istore (lv2 := [(4, .int x6), (5, .int b_6), (7, .int b_6), (0, .ref (ad 10 0)), (1, .int x1), (2, .int x2), (3, .int x3), (6, .int x6)]) 89 dX11_settled_89 (by decide) rfl ?_
            refine j_iinc (v := x6 + 1) (lv2 := [(6, .int (x6 + 1)), (4, .int x6), (5, .int b_6), (7, .int b_6), (0, .ref (ad 10 0)), (1, .int x1), (2, .int x2), (3, .int x3)]) 91 7 dX11_settled_91 rfl rfl (by decide) rfl ?_
            refine j_goto 94 39 dX11_settled_94 (by decide) ?_
            refine j_sub [4, 5, 6, 7, 1, 2, 0] rfl ?_
            exact ih _ x6 b_6 (x6 + 1)
set_option maxRecDepth 100000 in
set_option maxHeartbeats 4000000 in
theorem tX11_settled {ad : Nat → Nat → Nat} (X : Ctx) (γ : Nat → Nat) (F : Nat) (S : St) (p1 : Int32) (p2 : Int32) (p3 : Int32) : JJ X ad γ (RQm X ad 2 43 (outpi S)) (fcm (outpi S)) 2 43 cX11_settled 8 RX11 wsX11_settled (some .int) (fX11_settled F S p1 p2 p3) S 0 [(0, .ref (ad 10 0)), (1, .int p1), (2, .int p2), (3, .int p3)] [] := by
  unfold fX11_settled
  refine j_iload_n 0 1 dX11_settled_0 rfl rfl ?_
  refine j_callS_pi 1  [.int p1] [] gX11_settled_X11_isKin rfl eX11_isKin ⟨Nat.le_of_ble_eq_true rfl, Nat.le_of_ble_eq_true rfl⟩ rfl rfl (Nat.le_of_ble_eq_true rfl) dX11_settled_1 (kX11_isKin S p1) (fun b_1 γ => ?_)
  refine j_if_eq 4 26 dX11_settled_4 (by decide) (fun _ => ?_) (fun _ => ?_)
  · refine j_iconst (v := (-1)) 26 dX11_settled_26 (by decide) ?_
    exact j_iret 27 rfl dX11_settled_27
  · refine j_iload_n 7 2 dX11_settled_7 rfl rfl ?_
    refine j_iconst (v := 1) 8 dX11_settled_8 (by decide) ?_
    refine j_bipush (v := 9) 9 dX11_settled_9 (by decide) ?_
    refine j_callS_pi 11  [.int p2, .int 1, .int 9] [] gX11_settled_X11_within rfl eX11_within ⟨Nat.le_of_ble_eq_true rfl, Nat.le_of_ble_eq_true rfl⟩ rfl rfl (Nat.le_of_ble_eq_true rfl) dX11_settled_11 (kX11_within S p2 1 9) (fun b_2 γ => ?_)
    refine j_if_eq 14 26 dX11_settled_14 (by decide) (fun _ => ?_) (fun _ => ?_)
    · refine j_iconst (v := (-1)) 26 dX11_settled_26 (by decide) ?_
      exact j_iret 27 rfl dX11_settled_27
    · refine j_iload_n 17 3 dX11_settled_17 rfl rfl ?_
      refine j_iconst (v := 0) 18 dX11_settled_18 (by decide) ?_
      refine j_iconst (v := 1) 19 dX11_settled_19 (by decide) ?_
      refine j_callS_pi 20  [.int p3, .int 0, .int 1] [] gX11_settled_X11_within rfl eX11_within ⟨Nat.le_of_ble_eq_true rfl, Nat.le_of_ble_eq_true rfl⟩ rfl rfl (Nat.le_of_ble_eq_true rfl) dX11_settled_20 (kX11_within S p3 0 1) (fun b_3 γ => ?_)
      refine j_if_ne 23 28 dX11_settled_23 (by decide) (fun _ => ?_) (fun _ => ?_)
      · refine j_iconst (v := 0) 28 dX11_settled_28 (by decide) ?_
        refine j_istore (lv2 := [(4, .int 0), (0, .ref (ad 10 0)), (1, .int p1), (2, .int p2), (3, .int p3)]) 29 dX11_settled_29 (by decide) rfl ?_
        refine j_ldcw (v := 1000000000) 31 dX11_settled_31 wX11_settled_c292 ?_
        refine j_istore (lv2 := [(5, .int 1000000000), (4, .int 0), (0, .ref (ad 10 0)), (1, .int p1), (2, .int p2), (3, .int p3)]) 34 dX11_settled_34 (by decide) rfl ?_
        refine j_iconst (v := 0) 36 dX11_settled_36 (by decide) ?_
        refine j_istore (lv2 := [(6, .int 0), (5, .int 1000000000), (4, .int 0), (0, .ref (ad 10 0)), (1, .int p1), (2, .int p2), (3, .int p3)]) 37 dX11_settled_37 (by decide) rfl ?_
        refine j_sub [3, 4, 5, 6, 2, 1, 0] rfl ?_
        refine tX11_settled_L39 X F S p1 p2 p3 _ (fun γ x4_7 x5_8 => ?_) F _ 0 1000000000 0
        refine j_iload_n 97 0 dX11_settled_97 rfl rfl ?_
        refine j_if_ne 98 106 dX11_settled_98 (by decide) (fun _ => ?_) (fun _ => ?_)
        · refine j_iload 106 2 dX11_settled_106 rfl ?_
          exact j_iret 108 rfl dX11_settled_108
        · refine j_iload 101 1 dX11_settled_101 rfl ?_
          refine j_goto 103 108 dX11_settled_103 (by decide) ?_
          exact j_iret 108 rfl dX11_settled_108
      · refine j_iconst (v := (-1)) 26 dX11_settled_26 (by decide) ?_
        exact j_iret 27 rfl dX11_settled_27
set_option maxRecDepth 100000 in
set_option maxHeartbeats 4000000 in
theorem kX11_settled {ad : Nat → Nat → Nat} (F : Nat) (S : St) (p1 : Int32) (p2 : Int32) (p3 : Int32) : ∀ b, fX11_settled F S p1 p2 p3 = some b → ∀ l dC dI cy, CT l dC dI cy ad yX11_settled wsX11_settled 2 43 [.ref (ad 10 0), .int p1, .int p2, .int p3] S (some (.int b)) S :=
  fun b hb l dC dI cy => ct_of (l := l) (dC := dC) (dI := dI) (cy := cy) (outpi S) (by decide) rfl (Nat.le_of_ble_eq_true rfl) rfl (fun X γ => tX11_settled X γ F S p1 p2 p3) b hb
-- X11_settlement
theorem nX11_settlement_X11 : ∀ w ∈ u_ws RX11 TX11 9, w ∈ wsX11_settlement := by decide +kernel
theorem wX11_settlement_c296 : Cond.constant RX11 296 (100000) ∈ wsX11_settlement := by decide +kernel
theorem wX11_settlement_f70 : Cond.fieldLink RX11 70 "TwoTongues" "settlements" "LTwoTongues$Settlements;" ∈ wsX11_settlement := by decide +kernel
set_option maxRecDepth 100000 in
set_option maxHeartbeats 4000000 in
theorem tX11_settlement {ad : Nat → Nat → Nat} (X : Ctx) (γ : Nat → Nat) (S : St) (p1 : Int32) (p2 : Int32) : JJ X ad γ (RQm X ad 1 22 outei) (fcm outei) 1 22 cX11_settlement 3 RX11 wsX11_settlement (some .int) (fX11_settlement S p1 p2) S 0 [(0, .ref (ad 10 0)), (1, .int p1), (2, .int p2)] [] := by
  unfold fX11_settlement
  refine j_iload_n 0 1 dX11_settlement_0 rfl rfl ?_
  refine j_iconst (v := 1) 1 dX11_settlement_1 (by decide) ?_
  refine j_ldcw (v := 100000) 2 dX11_settlement_2 wX11_settlement_c296 ?_
  refine j_callS_pi 5  [.int p1, .int 1, .int 100000] [] gX11_settlement_X11_within rfl eX11_within ⟨Nat.le_of_ble_eq_true rfl, Nat.le_of_ble_eq_true rfl⟩ rfl rfl (Nat.le_of_ble_eq_true rfl) dX11_settlement_5 (kX11_within S p1 1 100000) (fun b_1 γ => ?_)
  refine j_if_eq 8 21 dX11_settlement_8 (by decide) (fun _ => ?_) (fun _ => ?_)
  · refine j_iconst (v := (-1)) 21 dX11_settlement_21 (by decide) ?_
    exact j_iret 22 rfl dX11_settlement_22
  · refine j_iload_n 11 2 dX11_settlement_11 rfl rfl ?_
    refine j_iconst (v := 0) 12 dX11_settlement_12 (by decide) ?_
    refine j_bipush (v := 50) 13 dX11_settlement_13 (by decide) ?_
    refine j_callS_pi 15  [.int p2, .int 0, .int 50] [] gX11_settlement_X11_within rfl eX11_within ⟨Nat.le_of_ble_eq_true rfl, Nat.le_of_ble_eq_true rfl⟩ rfl rfl (Nat.le_of_ble_eq_true rfl) dX11_settlement_15 (kX11_within S p2 0 50) (fun b_2 γ => ?_)
    refine j_if_ne 18 23 dX11_settlement_18 (by decide) (fun _ => ?_) (fun _ => ?_)
    · refine j_aload_n 23 0 dX11_settlement_23 rfl rfl ?_
      refine j_getr (c2 := 7) (n2 := 0) 24 8 nX11_settlement_X11 rfl (by decide) (prs_mem (by decide) (by decide)) (by decide) (by decide) wX11_settlement_f70 (Or.inl rfl) rfl rfl rfl dX11_settlement_24 ?_
      refine j_iload_n 27 1 dX11_settlement_27 rfl rfl ?_
      refine j_iload_n 28 2 dX11_settlement_28 rfl rfl ?_
      refine j_callV_ei 29 rfl (by decide) (prs_mem (by decide) (by decide))  [.int p1, .int p2] [] gX11_settlement_X8_add rfl eX8_add ⟨Nat.le_of_ble_eq_true rfl, Nat.le_of_ble_eq_true rfl⟩ rfl rfl (Nat.le_of_ble_eq_true rfl) dX11_settlement_29 (kX8_add S p1 p2) (fun b_3 γ => ?_)
      exact j_iret 32 rfl dX11_settlement_32
    · refine j_iconst (v := (-1)) 21 dX11_settlement_21 (by decide) ?_
      exact j_iret 22 rfl dX11_settlement_22
set_option maxRecDepth 100000 in
set_option maxHeartbeats 4000000 in
theorem kX11_settlement {ad : Nat → Nat → Nat} (S : St) (p1 : Int32) (p2 : Int32) : ∀ b, fX11_settlement S p1 p2 = some b → ∀ l dC dI cy, CT l dC dI cy ad yX11_settlement wsX11_settlement 1 22 [.ref (ad 10 0), .int p1, .int p2] S (some (.int b.1)) b.2 :=
  fun b hb l dC dI cy => ct_of (l := l) (dC := dC) (dI := dI) (cy := cy) outei (by decide) rfl (Nat.le_of_ble_eq_true rfl) rfl (fun X γ => tX11_settlement X γ S p1 p2) b hb
-- X11_topped
theorem nX11_topped_X8 : ∀ w ∈ u_ws RX8 TX8 3, w ∈ wsX11_topped := by decide +kernel
theorem nX11_topped_X11 : ∀ w ∈ u_ws RX11 TX11 9, w ∈ wsX11_topped := by decide +kernel
theorem wX11_topped_f70 : Cond.fieldLink RX11 70 "TwoTongues" "settlements" "LTwoTongues$Settlements;" ∈ wsX11_topped := by decide +kernel
theorem wX11_topped_f299 : Cond.fieldLink RX11 299 "TwoTongues$Settlements" "size" "I" ∈ wsX11_topped := by decide +kernel
set_option maxRecDepth 100000 in
set_option maxHeartbeats 4000000 in
theorem tX11_topped {ad : Nat → Nat → Nat} (X : Ctx) (γ : Nat → Nat) (F : Nat) (S : St) (p1 : Int32) : JJ X ad γ (RQm X ad 2 45 (outpi S)) (fcm (outpi S)) 2 45 cX11_topped 2 RX11 wsX11_topped (some .int) (fX11_topped F S p1) S 0 [(0, .ref (ad 10 0)), (1, .int p1)] [] := by
  unfold fX11_topped
  refine j_iload_n 0 1 dX11_topped_0 rfl rfl ?_
  refine j_iconst (v := (-1)) 1 dX11_topped_1 (by decide) ?_
  refine j_aload_n 2 0 dX11_topped_2 rfl rfl ?_
  refine j_getr (c2 := 7) (n2 := 0) 3 8 nX11_topped_X11 rfl (by decide) (prs_mem (by decide) (by decide)) (by decide) (by decide) wX11_topped_f70 (Or.inl rfl) rfl rfl rfl dX11_topped_3 ?_
  refine j_geti 6 2 nX11_topped_X8 rfl (by decide) (prs_mem (by decide) (by decide)) (by decide) (by decide) wX11_topped_f299 (Or.inl rfl) rfl dX11_topped_6 ?_
  refine j_iconst (v := 1) 9 dX11_topped_9 (by decide) ?_
  refine j_isub 10 dX11_topped_10 ?_
  refine j_callS_pi 11  [.int p1, .int (-1), .int ((gI S 7 0 2) - 1)] [] gX11_topped_X11_within rfl eX11_within ⟨Nat.le_of_ble_eq_true rfl, Nat.le_of_ble_eq_true rfl⟩ rfl rfl (Nat.le_of_ble_eq_true rfl) dX11_topped_11 (kX11_within S p1 (-1) ((gI S 7 0 2) - 1)) (fun b_1 γ => ?_)
  refine j_if_ne 14 19 dX11_topped_14 (by decide) (fun _ => ?_) (fun _ => ?_)
  · refine j_iload_n 19 1 dX11_topped_19 rfl rfl ?_
    refine j_iconst (v := (-1)) 20 dX11_topped_20 (by decide) ?_
    refine j_icmp_ne 21 34 dX11_topped_21 (by decide) (fun _ => ?_) (fun _ => ?_)
    · refine j_aload_n 34 0 dX11_topped_34 rfl rfl ?_
      refine j_getr (c2 := 7) (n2 := 0) 35 8 nX11_topped_X11 rfl (by decide) (prs_mem (by decide) (by decide)) (by decide) (by decide) wX11_topped_f70 (Or.inl rfl) rfl rfl rfl dX11_topped_35 ?_
      refine j_iload_n 38 1 dX11_topped_38 rfl rfl ?_
      refine j_callV_pi 39 rfl (by decide) (prs_mem (by decide) (by decide))  [.int p1] [] gX11_topped_X8_toppingOf rfl eX8_toppingOf ⟨Nat.le_of_ble_eq_true rfl, Nat.le_of_ble_eq_true rfl⟩ rfl rfl (Nat.le_of_ble_eq_true rfl) dX11_topped_39 (kX8_toppingOf F S p1) (fun b_2 γ => ?_)
      exact j_iret 42 rfl dX11_topped_42
    · refine j_aload_n 24 0 dX11_topped_24 rfl rfl ?_
      refine j_getr (c2 := 7) (n2 := 0) 25 8 nX11_topped_X11 rfl (by decide) (prs_mem (by decide) (by decide)) (by decide) (by decide) wX11_topped_f70 (Or.inl rfl) rfl rfl rfl dX11_topped_25 ?_
      refine j_callV_pi 28 rfl (by decide) (prs_mem (by decide) (by decide))  [] [] gX11_topped_X8_costOfAll rfl eX8_costOfAll ⟨Nat.le_of_ble_eq_true rfl, Nat.le_of_ble_eq_true rfl⟩ rfl rfl (Nat.le_of_ble_eq_true rfl) dX11_topped_28 (kX8_costOfAll F S) (fun b_3 γ => ?_)
      refine j_goto 31 42 dX11_topped_31 (by decide) ?_
      exact j_iret 42 rfl dX11_topped_42
  · refine j_iconst (v := (-1)) 17 dX11_topped_17 (by decide) ?_
    exact j_iret 18 rfl dX11_topped_18
set_option maxRecDepth 100000 in
set_option maxHeartbeats 4000000 in
theorem kX11_topped {ad : Nat → Nat → Nat} (F : Nat) (S : St) (p1 : Int32) : ∀ b, fX11_topped F S p1 = some b → ∀ l dC dI cy, CT l dC dI cy ad yX11_topped wsX11_topped 2 45 [.ref (ad 10 0), .int p1] S (some (.int b)) S :=
  fun b hb l dC dI cy => ct_of (l := l) (dC := dC) (dI := dI) (cy := cy) (outpi S) (by decide) rfl (Nat.le_of_ble_eq_true rfl) rfl (fun X γ => tX11_topped X γ F S p1) b hb
-- X11_plan
theorem nX11_plan_X11 : ∀ w ∈ u_ws RX11 TX11 9, w ∈ wsX11_plan := by decide +kernel
theorem wX11_plan_f63 : Cond.fieldLink RX11 63 "TwoTongues" "payments" "LTwoTongues$Payments;" ∈ wsX11_plan := by decide +kernel
theorem wX11_plan_f45 : Cond.fieldLink RX11 45 "TwoTongues" "claims" "LTwoTongues$Claims;" ∈ wsX11_plan := by decide +kernel
set_option maxRecDepth 100000 in
set_option maxHeartbeats 4000000 in
theorem tX11_plan {ad : Nat → Nat → Nat} (X : Ctx) (γ : Nat → Nat) (F : Nat) (S : St) (p1 : Int32) (p2 : Int32) (p3 : Int32) : JJ X ad γ (RQm X ad 5 113 outei) (fcm outei) 5 113 cX11_plan 5 RX11 wsX11_plan (some .int) (fX11_plan F S p1 p2 p3) S 0 [(0, .ref (ad 10 0)), (1, .int p1), (2, .int p2), (3, .int p3)] [] := by
  unfold fX11_plan
  refine j_iload_n 0 1 dX11_plan_0 rfl rfl ?_
  refine j_iconst (v := 1) 1 dX11_plan_1 (by decide) ?_
  refine j_sipush (v := 1000) 2 dX11_plan_2 (by decide) ?_
  refine j_callS_pi 5  [.int p1, .int 1, .int 1000] [] gX11_plan_X11_within rfl eX11_within ⟨Nat.le_of_ble_eq_true rfl, Nat.le_of_ble_eq_true rfl⟩ rfl rfl (Nat.le_of_ble_eq_true rfl) dX11_plan_5 (kX11_within S p1 1 1000) (fun b_1 γ => ?_)
  refine j_if_eq 8 23 dX11_plan_8 (by decide) (fun _ => ?_) (fun _ => ?_)
  · refine j_iconst (v := (-1)) 23 dX11_plan_23 (by decide) ?_
    exact j_iret 24 rfl dX11_plan_24
  · refine j_iload_n 11 2 dX11_plan_11 rfl rfl ?_
    refine j_callS_pi 12  [.int p2] [] gX11_plan_X11_isFactSet rfl eX11_isFactSet ⟨Nat.le_of_ble_eq_true rfl, Nat.le_of_ble_eq_true rfl⟩ rfl rfl (Nat.le_of_ble_eq_true rfl) dX11_plan_12 (kX11_isFactSet S p2) (fun b_2 γ => ?_)
    refine j_if_eq 15 23 dX11_plan_15 (by decide) (fun _ => ?_) (fun _ => ?_)
    · refine j_iconst (v := (-1)) 23 dX11_plan_23 (by decide) ?_
      exact j_iret 24 rfl dX11_plan_24
    · refine j_iload_n 18 3 dX11_plan_18 rfl rfl ?_
      refine j_iconst (v := (-1)) 19 dX11_plan_19 (by decide) ?_
      refine j_icmp_ge 20 25 dX11_plan_20 (by decide) (fun _ => ?_) (fun _ => ?_)
      · refine j_aload_n 25 0 dX11_plan_25 rfl rfl ?_
        refine j_getr (c2 := 5) (n2 := 0) 26 7 nX11_plan_X11 rfl (by decide) (prs_mem (by decide) (by decide)) (by decide) (by decide) wX11_plan_f63 (Or.inl rfl) rfl rfl rfl dX11_plan_26 ?_
        refine j_iload_n 29 1 dX11_plan_29 rfl rfl ?_
        refine j_aload_n 30 0 dX11_plan_30 rfl rfl ?_
        refine j_getr (c2 := 0) (n2 := 0) 31 5 nX11_plan_X11 rfl (by decide) (prs_mem (by decide) (by decide)) (by decide) (by decide) wX11_plan_f45 (Or.inl rfl) rfl rfl rfl dX11_plan_31 ?_
        refine j_iload_n 34 2 dX11_plan_34 rfl rfl ?_
        refine j_callV_pi 35 rfl (by decide) (prs_mem (by decide) (by decide))  [.int p2] [.int p1, .ref (ad 5 0)] gX11_plan_X0_foundedBy rfl eX0_foundedBy ⟨Nat.le_of_ble_eq_true rfl, Nat.le_of_ble_eq_true rfl⟩ rfl rfl (Nat.le_of_ble_eq_true rfl) dX11_plan_35 (kX0_foundedBy F S p2) (fun b_3 γ => ?_)
        refine j_callV_ei 38 rfl (by decide) (prs_mem (by decide) (by decide))  [.int p1, .int b_3] [] gX11_plan_X6_arrangeBy rfl eX6_arrangeBy ⟨Nat.le_of_ble_eq_true rfl, Nat.le_of_ble_eq_true rfl⟩ rfl rfl (Nat.le_of_ble_eq_true rfl) dX11_plan_38 (kX6_arrangeBy F S p1 b_3) (fun b_4 γ => ?_)
        refine j_istore (lv2 := [(4, .int b_4.1), (0, .ref (ad 10 0)), (1, .int p1), (2, .int p2), (3, .int p3)]) 41 dX11_plan_41 (by decide) rfl ?_
        refine j_iload_n 43 4 dX11_plan_43 rfl rfl ?_
        refine j_iconst (v := (-1)) 44 dX11_plan_44 (by decide) ?_
        refine j_icmp_ne 45 53 dX11_plan_45 (by decide) (fun _ => ?_) (fun _ => ?_)
        · refine j_aload_n 53 1 dX11_plan_53 rfl rfl ?_
          refine j_getr (c2 := 5) (n2 := 0) 54 7 nX11_plan_X11 rfl (by decide) (prs_mem (by decide) (by decide)) (by decide) (by decide) wX11_plan_f63 (Or.inl rfl) rfl rfl rfl dX11_plan_54 ?_
          refine j_iload_n 57 4 dX11_plan_57 rfl rfl ?_
          refine j_callU_pi 58 rfl (by decide) (prs_mem (by decide) (by decide))  [.int p3] [] (n := 1) (owner := "TwoTongues$Order") (x := ⟨"TwoTongues$Payments", "claimAt", "(I)I"⟩) gX11_plan_X5_claimAt_u309X6 rfl rfl (by decide +kernel) ⟨Nat.le_of_ble_eq_true rfl, Nat.le_of_ble_eq_true rfl⟩ rfl rfl (Nat.le_of_ble_eq_true rfl) dX11_plan_58 (kX5_claimAt_p F b_4.2 p3) (fun b_5 γ => ?_)
          exact j_iret 61 rfl dX11_plan_61
        · refine j_iload 48 0 dX11_plan_48 rfl ?_
          refine j_goto 50 61 dX11_plan_50 (by decide) ?_
          exact j_iret 61 rfl dX11_plan_61
      · refine j_iconst (v := (-1)) 23 dX11_plan_23 (by decide) ?_
        exact j_iret 24 rfl dX11_plan_24
set_option maxRecDepth 100000 in
set_option maxHeartbeats 4000000 in
theorem kX11_plan {ad : Nat → Nat → Nat} (F : Nat) (S : St) (p1 : Int32) (p2 : Int32) (p3 : Int32) : ∀ b, fX11_plan F S p1 p2 p3 = some b → ∀ l dC dI cy, CT l dC dI cy ad yX11_plan wsX11_plan 5 113 [.ref (ad 10 0), .int p1, .int p2, .int p3] S (some (.int b.1)) b.2 :=
  fun b hb l dC dI cy => ct_of (l := l) (dC := dC) (dI := dI) (cy := cy) outei (by decide) rfl (Nat.le_of_ble_eq_true rfl) rfl (fun X γ => tX11_plan X γ F S p1 p2 p3) b hb
-- X11_count
theorem nX11_count_X0 : ∀ w ∈ u_ws RX0 TX0 7, w ∈ wsX11_count := by decide +kernel
theorem nX11_count_X4 : ∀ w ∈ u_ws RX4 TX4 17, w ∈ wsX11_count := by decide +kernel
theorem nX11_count_X7 : ∀ w ∈ u_ws RX7 TX7 12, w ∈ wsX11_count := by decide +kernel
theorem nX11_count_X8 : ∀ w ∈ u_ws RX8 TX8 3, w ∈ wsX11_count := by decide +kernel
theorem nX11_count_X9 : ∀ w ∈ u_ws RX9 TX9 4, w ∈ wsX11_count := by decide +kernel
theorem nX11_count_X10 : ∀ w ∈ u_ws RX10 TX10 8, w ∈ wsX11_count := by decide +kernel
theorem nX11_count_X11 : ∀ w ∈ u_ws RX11 TX11 9, w ∈ wsX11_count := by decide +kernel
theorem wX11_count_f12 : Cond.fieldLink RX11 12 "TwoTongues" "one" "LTwoTongues$Tongue;" ∈ wsX11_count := by decide +kernel
theorem wX11_count_f310 : Cond.fieldLink RX11 310 "TwoTongues$Tongue" "items" "I" ∈ wsX11_count := by decide +kernel
theorem wX11_count_f16 : Cond.fieldLink RX11 16 "TwoTongues" "other" "LTwoTongues$Tongue;" ∈ wsX11_count := by decide +kernel
theorem wX11_count_f22 : Cond.fieldLink RX11 22 "TwoTongues" "people" "LTwoTongues$People;" ∈ wsX11_count := by decide +kernel
theorem wX11_count_f313 : Cond.fieldLink RX11 313 "TwoTongues$People" "size" "I" ∈ wsX11_count := by decide +kernel
theorem wX11_count_f314 : Cond.fieldLink RX11 314 "TwoTongues$People" "sayings" "I" ∈ wsX11_count := by decide +kernel
theorem wX11_count_f29 : Cond.fieldLink RX11 29 "TwoTongues" "land" "LTwoTongues$Land;" ∈ wsX11_count := by decide +kernel
theorem wX11_count_f317 : Cond.fieldLink RX11 317 "TwoTongues$Land" "size" "I" ∈ wsX11_count := by decide +kernel
theorem wX11_count_f318 : Cond.fieldLink RX11 318 "TwoTongues$Land" "holdings" "I" ∈ wsX11_count := by decide +kernel
theorem wX11_count_f214 : Cond.fieldLink RX11 214 "TwoTongues$Land" "deeds" "I" ∈ wsX11_count := by decide +kernel
theorem wX11_count_f227 : Cond.fieldLink RX11 227 "TwoTongues$Land" "takings" "I" ∈ wsX11_count := by decide +kernel
theorem wX11_count_f45 : Cond.fieldLink RX11 45 "TwoTongues" "claims" "LTwoTongues$Claims;" ∈ wsX11_count := by decide +kernel
theorem wX11_count_f279 : Cond.fieldLink RX11 279 "TwoTongues$Claims" "size" "I" ∈ wsX11_count := by decide +kernel
theorem wX11_count_f70 : Cond.fieldLink RX11 70 "TwoTongues" "settlements" "LTwoTongues$Settlements;" ∈ wsX11_count := by decide +kernel
theorem wX11_count_f299 : Cond.fieldLink RX11 299 "TwoTongues$Settlements" "size" "I" ∈ wsX11_count := by decide +kernel
theorem wX11_count_f96 : Cond.fieldLink RX11 96 "TwoTongues$Tongue" "text" "LTwoTongues$Text;" ∈ wsX11_count := by decide +kernel
theorem wX11_count_f321 : Cond.fieldLink RX11 321 "TwoTongues$Text" "length" "I" ∈ wsX11_count := by decide +kernel
set_option maxRecDepth 100000 in
set_option maxHeartbeats 4000000 in
theorem tX11_count {ad : Nat → Nat → Nat} (X : Ctx) (γ : Nat → Nat) (S : St) (p1 : Int32) : JJ X ad γ (RQm X ad 0 0 (outpi S)) (fcm (outpi S)) 0 0 cX11_count 2 RX11 wsX11_count (some .int) (fX11_count S p1) S 0 [(0, .ref (ad 10 0)), (1, .int p1)] [] := by
  unfold fX11_count
  refine j_iload_n 0 1 dX11_count_0 rfl rfl ?_
  refine j_table (off := 63) 1 64 dX11_count_1 (by decide) (by decide) ?_ (fun h0 => ?_)
  · refine j_aload_n 64 0 dX11_count_64 rfl rfl ?_
    refine j_getr (c2 := 9) (n2 := 0) 65 0 nX11_count_X11 rfl (by decide) (prs_mem (by decide) (by decide)) (by decide) (by decide) wX11_count_f12 (Or.inl rfl) rfl rfl rfl dX11_count_65 ?_
    refine j_geti 68 6 nX11_count_X10 rfl (by decide) (prs_mem (by decide) (by decide)) (by decide) (by decide) wX11_count_f310 (Or.inl rfl) rfl dX11_count_68 ?_
    exact j_iret 71 rfl dX11_count_71
  refine j_table (off := 71) 1 72 dX11_count_1 (by decide) (by decide) ?_ (fun h1 => ?_)
  · refine j_aload_n 72 0 dX11_count_72 rfl rfl ?_
    refine j_getr (c2 := 9) (n2 := 1) 73 1 nX11_count_X11 rfl (by decide) (prs_mem (by decide) (by decide)) (by decide) (by decide) wX11_count_f16 (Or.inl rfl) rfl rfl rfl dX11_count_73 ?_
    refine j_geti 76 6 nX11_count_X10 rfl (by decide) (prs_mem (by decide) (by decide)) (by decide) (by decide) wX11_count_f310 (Or.inl rfl) rfl dX11_count_76 ?_
    exact j_iret 79 rfl dX11_count_79
  refine j_table (off := 79) 1 80 dX11_count_1 (by decide) (by decide) ?_ (fun h2 => ?_)
  · refine j_aload_n 80 0 dX11_count_80 rfl rfl ?_
    refine j_getr (c2 := 6) (n2 := 0) 81 2 nX11_count_X11 rfl (by decide) (prs_mem (by decide) (by decide)) (by decide) (by decide) wX11_count_f22 (Or.inl rfl) rfl rfl rfl dX11_count_81 ?_
    refine j_geti 84 6 nX11_count_X7 rfl (by decide) (prs_mem (by decide) (by decide)) (by decide) (by decide) wX11_count_f313 (Or.inl rfl) rfl dX11_count_84 ?_
    exact j_iret 87 rfl dX11_count_87
  refine j_table (off := 87) 1 88 dX11_count_1 (by decide) (by decide) ?_ (fun h3 => ?_)
  · refine j_aload_n 88 0 dX11_count_88 rfl rfl ?_
    refine j_getr (c2 := 6) (n2 := 0) 89 2 nX11_count_X11 rfl (by decide) (prs_mem (by decide) (by decide)) (by decide) (by decide) wX11_count_f22 (Or.inl rfl) rfl rfl rfl dX11_count_89 ?_
    refine j_geti 92 11 nX11_count_X7 rfl (by decide) (prs_mem (by decide) (by decide)) (by decide) (by decide) wX11_count_f314 (Or.inl rfl) rfl dX11_count_92 ?_
    exact j_iret 95 rfl dX11_count_95
  refine j_table (off := 95) 1 96 dX11_count_1 (by decide) (by decide) ?_ (fun h4 => ?_)
  · refine j_aload_n 96 0 dX11_count_96 rfl rfl ?_
    refine j_getr (c2 := 4) (n2 := 0) 97 3 nX11_count_X11 rfl (by decide) (prs_mem (by decide) (by decide)) (by decide) (by decide) wX11_count_f29 (Or.inl rfl) rfl rfl rfl dX11_count_97 ?_
    refine j_geti 100 3 nX11_count_X4 rfl (by decide) (prs_mem (by decide) (by decide)) (by decide) (by decide) wX11_count_f317 (Or.inl rfl) rfl dX11_count_100 ?_
    exact j_iret 103 rfl dX11_count_103
  refine j_table (off := 103) 1 104 dX11_count_1 (by decide) (by decide) ?_ (fun h5 => ?_)
  · refine j_aload_n 104 0 dX11_count_104 rfl rfl ?_
    refine j_getr (c2 := 4) (n2 := 0) 105 3 nX11_count_X11 rfl (by decide) (prs_mem (by decide) (by decide)) (by decide) (by decide) wX11_count_f29 (Or.inl rfl) rfl rfl rfl dX11_count_105 ?_
    refine j_geti 108 8 nX11_count_X4 rfl (by decide) (prs_mem (by decide) (by decide)) (by decide) (by decide) wX11_count_f318 (Or.inl rfl) rfl dX11_count_108 ?_
    exact j_iret 111 rfl dX11_count_111
  refine j_table (off := 111) 1 112 dX11_count_1 (by decide) (by decide) ?_ (fun h6 => ?_)
  · refine j_aload_n 112 0 dX11_count_112 rfl rfl ?_
    refine j_getr (c2 := 4) (n2 := 0) 113 3 nX11_count_X11 rfl (by decide) (prs_mem (by decide) (by decide)) (by decide) (by decide) wX11_count_f29 (Or.inl rfl) rfl rfl rfl dX11_count_113 ?_
    refine j_geti 116 12 nX11_count_X4 rfl (by decide) (prs_mem (by decide) (by decide)) (by decide) (by decide) wX11_count_f214 (Or.inl rfl) rfl dX11_count_116 ?_
    exact j_iret 119 rfl dX11_count_119
  refine j_table (off := 119) 1 120 dX11_count_1 (by decide) (by decide) ?_ (fun h7 => ?_)
  · refine j_aload_n 120 0 dX11_count_120 rfl rfl ?_
    refine j_getr (c2 := 4) (n2 := 0) 121 3 nX11_count_X11 rfl (by decide) (prs_mem (by decide) (by decide)) (by decide) (by decide) wX11_count_f29 (Or.inl rfl) rfl rfl rfl dX11_count_121 ?_
    refine j_geti 124 16 nX11_count_X4 rfl (by decide) (prs_mem (by decide) (by decide)) (by decide) (by decide) wX11_count_f227 (Or.inl rfl) rfl dX11_count_124 ?_
    exact j_iret 127 rfl dX11_count_127
  refine j_table (off := 127) 1 128 dX11_count_1 (by decide) (by decide) ?_ (fun h8 => ?_)
  · refine j_aload_n 128 0 dX11_count_128 rfl rfl ?_
    refine j_getr (c2 := 0) (n2 := 0) 129 5 nX11_count_X11 rfl (by decide) (prs_mem (by decide) (by decide)) (by decide) (by decide) wX11_count_f45 (Or.inl rfl) rfl rfl rfl dX11_count_129 ?_
    refine j_geti 132 6 nX11_count_X0 rfl (by decide) (prs_mem (by decide) (by decide)) (by decide) (by decide) wX11_count_f279 (Or.inl rfl) rfl dX11_count_132 ?_
    exact j_iret 135 rfl dX11_count_135
  refine j_table (off := 135) 1 136 dX11_count_1 (by decide) (by decide) ?_ (fun h9 => ?_)
  · refine j_aload_n 136 0 dX11_count_136 rfl rfl ?_
    refine j_getr (c2 := 7) (n2 := 0) 137 8 nX11_count_X11 rfl (by decide) (prs_mem (by decide) (by decide)) (by decide) (by decide) wX11_count_f70 (Or.inl rfl) rfl rfl rfl dX11_count_137 ?_
    refine j_geti 140 2 nX11_count_X8 rfl (by decide) (prs_mem (by decide) (by decide)) (by decide) (by decide) wX11_count_f299 (Or.inl rfl) rfl dX11_count_140 ?_
    exact j_iret 143 rfl dX11_count_143
  refine j_table (off := 143) 1 144 dX11_count_1 (by decide) (by decide) ?_ (fun h10 => ?_)
  · refine j_aload_n 144 0 dX11_count_144 rfl rfl ?_
    refine j_getr (c2 := 9) (n2 := 0) 145 0 nX11_count_X11 rfl (by decide) (prs_mem (by decide) (by decide)) (by decide) (by decide) wX11_count_f12 (Or.inl rfl) rfl rfl rfl dX11_count_145 ?_
    refine j_getr (c2 := 8) (n2 := 0) 148 4 nX11_count_X10 rfl (by decide) (prs_mem (by decide) (by decide)) (by decide) (by decide) wX11_count_f96 (Or.inl rfl) rfl rfl rfl dX11_count_148 ?_
    refine j_geti 151 1 nX11_count_X9 rfl (by decide) (prs_mem (by decide) (by decide)) (by decide) (by decide) wX11_count_f321 (Or.inl rfl) rfl dX11_count_151 ?_
    exact j_iret 154 rfl dX11_count_154
  refine j_table (off := 154) 1 155 dX11_count_1 (by decide) (by decide) ?_ (fun h11 => ?_)
  · refine j_aload_n 155 0 dX11_count_155 rfl rfl ?_
    refine j_getr (c2 := 9) (n2 := 1) 156 1 nX11_count_X11 rfl (by decide) (prs_mem (by decide) (by decide)) (by decide) (by decide) wX11_count_f16 (Or.inl rfl) rfl rfl rfl dX11_count_156 ?_
    refine j_getr (c2 := 8) (n2 := 1) 159 4 nX11_count_X10 rfl (by decide) (prs_mem (by decide) (by decide)) (by decide) (by decide) wX11_count_f96 (Or.inl rfl) rfl rfl rfl dX11_count_159 ?_
    refine j_geti 162 1 nX11_count_X9 rfl (by decide) (prs_mem (by decide) (by decide)) (by decide) (by decide) wX11_count_f321 (Or.inl rfl) rfl dX11_count_162 ?_
    exact j_iret 165 rfl dX11_count_165
  refine j_tableD 1 166 dX11_count_1 (tab_out h0 h1 h2 h3 h4 h5 h6 h7 h8 h9 h10 h11) (by decide) ?_
  refine j_iconst (v := (-1)) 166 dX11_count_166 (by decide) ?_
  exact j_iret 167 rfl dX11_count_167
set_option maxRecDepth 100000 in
set_option maxHeartbeats 4000000 in
theorem kX11_count {ad : Nat → Nat → Nat} (S : St) (p1 : Int32) : ∀ b, fX11_count S p1 = some b → ∀ l dC dI cy, CT l dC dI cy ad yX11_count wsX11_count 0 0 [.ref (ad 10 0), .int p1] S (some (.int b)) S :=
  fun b hb l dC dI cy => ct_of (l := l) (dC := dC) (dI := dI) (cy := cy) (outpi S) (by decide) rfl (Nat.le_of_ble_eq_true rfl) rfl (fun X γ => tX11_count X γ S p1) b hb
-- X12_in
set_option maxRecDepth 100000 in
set_option maxHeartbeats 4000000 in
theorem tX12_in {ad : Nat → Nat → Nat} (X : Ctx) (γ : Nat → Nat) (S : St) (p0 : Int64) (p2 : Int64) (p4 : Int64) : JJ X ad γ (RQm X ad 0 0 (outpi S)) (fcm (outpi S)) 0 0 cX12_in 6 RX12 wsX12_in (some .boolean) (fX12_in S p0 p2 p4) S 0 [(0, .long p0), (2, .long p2), (4, .long p4)] [] := by
  unfold fX12_in
  refine j_lload_n 0 0 dX12_in_0 rfl rfl ?_
  refine j_lload_n 1 1 dX12_in_1 rfl rfl ?_
  refine j_lcmp 2 dX12_in_2 ?_
  refine j_if_lt 3 17 dX12_in_3 (by decide) (fun _ => ?_) (fun _ => ?_)
  · refine j_iconst (v := 0) 17 dX12_in_17 (by decide) ?_
    exact j_zret 18 (by decide) rfl dX12_in_18
  · refine j_lload_n 6 0 dX12_in_6 rfl rfl ?_
    refine j_lload 7 2 dX12_in_7 rfl ?_
    refine j_lcmp 9 dX12_in_9 ?_
    refine j_if_gt 10 17 dX12_in_10 (by decide) (fun _ => ?_) (fun _ => ?_)
    · refine j_iconst (v := 0) 17 dX12_in_17 (by decide) ?_
      exact j_zret 18 (by decide) rfl dX12_in_18
    · refine j_iconst (v := 1) 13 dX12_in_13 (by decide) ?_
      refine j_goto 14 18 dX12_in_14 (by decide) ?_
      exact j_zret 18 (by decide) rfl dX12_in_18
set_option maxRecDepth 100000 in
set_option maxHeartbeats 4000000 in
theorem kX12_in {ad : Nat → Nat → Nat} (S : St) (p0 : Int64) (p2 : Int64) (p4 : Int64) : ∀ b, fX12_in S p0 p2 p4 = some b → ∀ l dC dI cy, CT l dC dI cy ad yX12_in wsX12_in 0 0 [.long p0, .long p2, .long p4] S (some (.int b)) S :=
  fun b hb l dC dI cy => ct_of (l := l) (dC := dC) (dI := dI) (cy := cy) (outpi S) (by decide) rfl (Nat.le_of_ble_eq_true rfl) rfl (fun X γ => tX12_in X γ S p0 p2 p4) b hb
-- X12_has
set_option maxRecDepth 100000 in
set_option maxHeartbeats 4000000 in
theorem tX12_has {ad : Nat → Nat → Nat} (X : Ctx) (γ : Nat → Nat) (S : St) (p0 : Int32) (p1 : Int32) : JJ X ad γ (RQm X ad 0 0 (outpi S)) (fcm (outpi S)) 0 0 cX12_has 2 RX12 wsX12_has (some .boolean) (fX12_has S p0 p1) S 0 [(0, .int p0), (1, .int p1)] [] := by
  unfold fX12_has
  refine j_iload_n 0 0 dX12_has_0 rfl rfl ?_
  refine j_iload_n 1 1 dX12_has_1 rfl rfl ?_
  refine j_ishr 2 dX12_has_2 ?_
  refine j_iconst (v := 1) 3 dX12_has_3 (by decide) ?_
  refine j_iand 4 dX12_has_4 ?_
  refine j_iconst (v := 1) 5 dX12_has_5 (by decide) ?_
  refine j_icmp_ne 6 13 dX12_has_6 (by decide) (fun _ => ?_) (fun _ => ?_)
  · refine j_iconst (v := 0) 13 dX12_has_13 (by decide) ?_
    exact j_zret 14 (by decide) rfl dX12_has_14
  · refine j_iconst (v := 1) 9 dX12_has_9 (by decide) ?_
    refine j_goto 10 14 dX12_has_10 (by decide) ?_
    exact j_zret 14 (by decide) rfl dX12_has_14
set_option maxRecDepth 100000 in
set_option maxHeartbeats 4000000 in
theorem kX12_has {ad : Nat → Nat → Nat} (S : St) (p0 : Int32) (p1 : Int32) : ∀ b, fX12_has S p0 p1 = some b → ∀ l dC dI cy, CT l dC dI cy ad yX12_has wsX12_has 0 0 [.int p0, .int p1] S (some (.int b)) S :=
  fun b hb l dC dI cy => ct_of (l := l) (dC := dC) (dI := dI) (cy := cy) (outpi S) (by decide) rfl (Nat.le_of_ble_eq_true rfl) rfl (fun X γ => tX12_has X γ S p0 p1) b hb
-- X12_bits
set_option maxRecDepth 100000 in
set_option maxHeartbeats 4000000 in
theorem tX12_bits_L4 {ad : Nat → Nat → Nat} (X : Ctx) (F : Nat) (S : St)   : ∀ (n : Nat) (γ : Nat → Nat) (x1 : Int32) (x2 : Int32), JJ X ad γ (RQm X ad 0 0 (outpi S)) (fcm (outpi S)) 0 0 cX12_bits 3 RX12 wsX12_bits (some .int) (fX12_bits_L4 F S n x1 x2) S 4 [(1, .int x1), (2, .int x2)] [] := by
  intro n
  induction n with
  | zero => intro _ _ _; exact j_none
  | succ n ih =>
    intro γ x1 x2
    rw [show fX12_bits_L4 F S (n + 1) x1 x2 = fX12_bits_b4 F S (fX12_bits_L4 F S n) x1 x2 from rfl]
    unfold fX12_bits_b4
    refine j_iload_n 4 1 dX12_bits_4 rfl rfl ?_
    refine j_if_eq 5 20 dX12_bits_5 (by decide) (fun _ => ?_) (fun _ => ?_)
    · refine j_iload_n 20 0 dX12_bits_20 rfl rfl ?_
      exact j_iret 21 rfl dX12_bits_21
    · refine j_iinc (v := x1 + 1) (lv2 := [(1, .int (x1 + 1)), (2, .int x2)]) 8 0 dX12_bits_8 rfl rfl (by decide) rfl ?_
      refine j_iload_n 11 1 dX12_bits_11 rfl rfl ?_
      refine j_iload_n 12 1 dX12_bits_12 rfl rfl ?_
      refine j_iconst (v := 1) 13 dX12_bits_13 (by decide) ?_
      refine j_isub 14 dX12_bits_14 ?_
      refine j_iand 15 dX12_bits_15 ?_
      refine j_bndi (fun x2_1 => ?_)
      refine j_istore_n (lv2 := [(2, .int x2_1), (1, .int (x1 + 1))]) 16 dX12_bits_16 rfl (by decide) rfl ?_
      refine j_goto 17 4 dX12_bits_17 (by decide) ?_
      refine j_sub [1, 0] rfl ?_
      exact ih _ (x1 + 1) x2_1
set_option maxRecDepth 100000 in
set_option maxHeartbeats 4000000 in
theorem tX12_bits {ad : Nat → Nat → Nat} (X : Ctx) (γ : Nat → Nat) (F : Nat) (S : St) (p0 : Int32) : JJ X ad γ (RQm X ad 0 0 (outpi S)) (fcm (outpi S)) 0 0 cX12_bits 3 RX12 wsX12_bits (some .int) (fX12_bits F S p0) S 0 [(0, .int p0)] [] := by
  unfold fX12_bits
  refine j_iconst (v := 0) 0 dX12_bits_0 (by decide) ?_
  refine j_istore_n (lv2 := [(1, .int 0), (0, .int p0)]) 1 dX12_bits_1 rfl (by decide) rfl ?_
  refine j_iload_n 2 1 dX12_bits_2 rfl rfl ?_
  refine j_istore_n (lv2 := [(2, .int p0), (1, .int 0), (0, .int p0)]) 3 dX12_bits_3 rfl (by decide) rfl ?_
  refine j_sub [1, 0] rfl ?_
  exact tX12_bits_L4 X F S F _ 0 p0
set_option maxRecDepth 100000 in
set_option maxHeartbeats 4000000 in
theorem kX12_bits {ad : Nat → Nat → Nat} (F : Nat) (S : St) (p0 : Int32) : ∀ b, fX12_bits F S p0 = some b → ∀ l dC dI cy, CT l dC dI cy ad yX12_bits wsX12_bits 0 0 [.int p0] S (some (.int b)) S :=
  fun b hb l dC dI cy => ct_of (l := l) (dC := dC) (dI := dI) (cy := cy) (outpi S) (by decide) rfl (Nat.le_of_ble_eq_true rfl) rfl (fun X γ => tX12_bits X γ F S p0) b hb
-- X12_isYear
theorem wX12_isYear_c95 : Cond.constantLong RX12 95 (200) ∈ wsX12_isYear := by decide +kernel
set_option maxRecDepth 100000 in
set_option maxHeartbeats 4000000 in
theorem tX12_isYear {ad : Nat → Nat → Nat} (X : Ctx) (γ : Nat → Nat) (S : St) (p0 : Int32) : JJ X ad γ (RQm X ad 1 25 (outpi S)) (fcm (outpi S)) 1 25 cX12_isYear 1 RX12 wsX12_isYear (some .boolean) (fX12_isYear S p0) S 0 [(0, .int p0)] [] := by
  unfold fX12_isYear
  refine j_iload_n 0 0 dX12_isYear_0 rfl rfl ?_
  refine j_i2l 1 dX12_isYear_1 ?_
  refine j_lconst (v := 0) 2 dX12_isYear_2 (by decide) ?_
  refine j_ldc2 (v := 200) 3 dX12_isYear_3 wX12_isYear_c95 ?_
  refine j_callS_pi 6  [.long p0.toInt64, .long 0, .long 200] [] gX12_isYear_X12_in rfl eX12_in ⟨Nat.le_of_ble_eq_true rfl, Nat.le_of_ble_eq_true rfl⟩ rfl rfl (Nat.le_of_ble_eq_true rfl) dX12_isYear_6 (kX12_in S p0.toInt64 0 200) (fun b_1 γ => ?_)
  refine j_gd (fun hz => ?_)
  exact j_zret 9 (isB_nar hz) rfl dX12_isYear_9
set_option maxRecDepth 100000 in
set_option maxHeartbeats 4000000 in
theorem kX12_isYear {ad : Nat → Nat → Nat} (S : St) (p0 : Int32) : ∀ b, fX12_isYear S p0 = some b → ∀ l dC dI cy, CT l dC dI cy ad yX12_isYear wsX12_isYear 1 25 [.int p0] S (some (.int b)) S :=
  fun b hb l dC dI cy => ct_of (l := l) (dC := dC) (dI := dI) (cy := cy) (outpi S) (by decide) rfl (Nat.le_of_ble_eq_true rfl) rfl (fun X γ => tX12_isYear X γ S p0) b hb
-- X12_isTongue
set_option maxRecDepth 100000 in
set_option maxHeartbeats 4000000 in
theorem tX12_isTongue {ad : Nat → Nat → Nat} (X : Ctx) (γ : Nat → Nat) (S : St) (p0 : Int32) : JJ X ad γ (RQm X ad 1 25 (outpi S)) (fcm (outpi S)) 1 25 cX12_isTongue 1 RX12 wsX12_isTongue (some .boolean) (fX12_isTongue S p0) S 0 [(0, .int p0)] [] := by
  unfold fX12_isTongue
  refine j_iload_n 0 0 dX12_isTongue_0 rfl rfl ?_
  refine j_i2l 1 dX12_isTongue_1 ?_
  refine j_lconst (v := 0) 2 dX12_isTongue_2 (by decide) ?_
  refine j_lconst (v := 1) 3 dX12_isTongue_3 (by decide) ?_
  refine j_callS_pi 4  [.long p0.toInt64, .long 0, .long 1] [] gX12_isTongue_X12_in rfl eX12_in ⟨Nat.le_of_ble_eq_true rfl, Nat.le_of_ble_eq_true rfl⟩ rfl rfl (Nat.le_of_ble_eq_true rfl) dX12_isTongue_4 (kX12_in S p0.toInt64 0 1) (fun b_1 γ => ?_)
  refine j_gd (fun hz => ?_)
  exact j_zret 7 (isB_nar hz) rfl dX12_isTongue_7
set_option maxRecDepth 100000 in
set_option maxHeartbeats 4000000 in
theorem kX12_isTongue {ad : Nat → Nat → Nat} (S : St) (p0 : Int32) : ∀ b, fX12_isTongue S p0 = some b → ∀ l dC dI cy, CT l dC dI cy ad yX12_isTongue wsX12_isTongue 1 25 [.int p0] S (some (.int b)) S :=
  fun b hb l dC dI cy => ct_of (l := l) (dC := dC) (dI := dI) (cy := cy) (outpi S) (by decide) rfl (Nat.le_of_ble_eq_true rfl) rfl (fun X γ => tX12_isTongue X γ S p0) b hb
-- X12_book
theorem nX12_book_X12 : ∀ w ∈ u_ws RX12 TX12 40, w ∈ wsX12_book := by decide +kernel
theorem wX12_book_c105 : Cond.constantLong RX12 105 (7) ∈ wsX12_book := by decide +kernel
theorem wX12_book_c110 : Cond.constantLong RX12 110 (63) ∈ wsX12_book := by decide +kernel
theorem wX12_book_f22 : Cond.fieldLink RX12 22 "TwoTonguesModel" "bookMany" "[I" ∈ wsX12_book := by decide +kernel
theorem wX12_book_f25 : Cond.fieldLink RX12 25 "TwoTonguesModel" "books" "[I" ∈ wsX12_book := by decide +kernel
set_option maxRecDepth 100000 in
set_option maxHeartbeats 4000000 in
theorem tX12_book {ad : Nat → Nat → Nat} (X : Ctx) (γ : Nat → Nat) (S : St) (p1 : Int32) (p2 : Int32) (p3 : Int32) (p4 : Int32) : JJ X ad γ (RQm X ad 2 45 outei) (fcm outei) 2 45 cX12_book 6 RX12 wsX12_book (some .int) (fX12_book S p1 p2 p3 p4) S 0 [(0, .ref (ad 11 0)), (1, .int p1), (2, .int p2), (3, .int p3), (4, .int p4)] [] := by
  unfold fX12_book
  refine j_iload_n 0 1 dX12_book_0 rfl rfl ?_
  refine j_callS_pi 1  [.int p1] [] gX12_book_X12_isTongue rfl eX12_isTongue ⟨Nat.le_of_ble_eq_true rfl, Nat.le_of_ble_eq_true rfl⟩ rfl rfl (Nat.le_of_ble_eq_true rfl) dX12_book_1 (kX12_isTongue S p1) (fun b_1 γ => ?_)
  refine j_if_eq 4 39 dX12_book_4 (by decide) (fun _ => ?_) (fun _ => ?_)
  · refine j_iconst (v := (-1)) 39 dX12_book_39 (by decide) ?_
    exact j_iret 40 rfl dX12_book_40
  · refine j_iload_n 7 2 dX12_book_7 rfl rfl ?_
    refine j_i2l 8 dX12_book_8 ?_
    refine j_lconst (v := 0) 9 dX12_book_9 (by decide) ?_
    refine j_ldc2 (v := 7) 10 dX12_book_10 wX12_book_c105 ?_
    refine j_callS_pi 13  [.long p2.toInt64, .long 0, .long 7] [] gX12_book_X12_in rfl eX12_in ⟨Nat.le_of_ble_eq_true rfl, Nat.le_of_ble_eq_true rfl⟩ rfl rfl (Nat.le_of_ble_eq_true rfl) dX12_book_13 (kX12_in S p2.toInt64 0 7) (fun b_2 γ => ?_)
    refine j_if_eq 16 39 dX12_book_16 (by decide) (fun _ => ?_) (fun _ => ?_)
    · refine j_iconst (v := (-1)) 39 dX12_book_39 (by decide) ?_
      exact j_iret 40 rfl dX12_book_40
    · refine j_iload_n 19 3 dX12_book_19 rfl rfl ?_
      refine j_callS_pi 20  [.int p3] [] gX12_book_X12_isYear rfl eX12_isYear ⟨Nat.le_of_ble_eq_true rfl, Nat.le_of_ble_eq_true rfl⟩ rfl rfl (Nat.le_of_ble_eq_true rfl) dX12_book_20 (kX12_isYear S p3) (fun b_3 γ => ?_)
      refine j_if_eq 23 39 dX12_book_23 (by decide) (fun _ => ?_) (fun _ => ?_)
      · refine j_iconst (v := (-1)) 39 dX12_book_39 (by decide) ?_
        exact j_iret 40 rfl dX12_book_40
      · refine j_iload 26 4 dX12_book_26 rfl ?_
        refine j_i2l 28 dX12_book_28 ?_
        refine j_lconst (v := 0) 29 dX12_book_29 (by decide) ?_
        refine j_ldc2 (v := 63) 30 dX12_book_30 wX12_book_c110 ?_
        refine j_callS_pi 33  [.long p4.toInt64, .long 0, .long 63] [] gX12_book_X12_in rfl eX12_in ⟨Nat.le_of_ble_eq_true rfl, Nat.le_of_ble_eq_true rfl⟩ rfl rfl (Nat.le_of_ble_eq_true rfl) dX12_book_33 (kX12_in S p4.toInt64 0 63) (fun b_4 γ => ?_)
        refine j_if_ne 36 41 dX12_book_36 (by decide) (fun _ => ?_) (fun _ => ?_)
        · refine j_aload_n 41 0 dX12_book_41 rfl rfl ?_
          refine j_getr (c2 := 57) (n2 := 0) 42 4 nX12_book_X12 rfl (by decide) (prs_mem (by decide) (by decide)) (by decide) (by decide) wX12_book_f22 (Or.inl rfl) rfl rfl rfl dX12_book_42 ?_
          refine j_iload_n 45 1 dX12_book_45 rfl rfl ?_
          refine j_iald (c := 57) (n := 0) (L := 2) 46 (prs_mem (by decide) (by decide)) (by decide) rfl rfl rfl dX12_book_46 ?_
          refine j_bipush (v := 20) 47 dX12_book_47 (by decide) ?_
          refine j_icmp_ne 49 55 dX12_book_49 (by decide) (fun _ => ?_) (fun _ => ?_)
          · refine j_bipush (v := 60) 55 dX12_book_55 (by decide) ?_
            refine j_iload_n 57 1 dX12_book_57 rfl rfl ?_
            refine j_imul 58 dX12_book_58 ?_
            refine j_iconst (v := 3) 59 dX12_book_59 (by decide) ?_
            refine j_aload_n 60 0 dX12_book_60 rfl rfl ?_
            refine j_getr (c2 := 57) (n2 := 0) 61 4 nX12_book_X12 rfl (by decide) (prs_mem (by decide) (by decide)) (by decide) (by decide) wX12_book_f22 (Or.inl rfl) rfl rfl rfl dX12_book_61 ?_
            refine j_iload_n 64 1 dX12_book_64 rfl rfl ?_
            refine j_iald (c := 57) (n := 0) (L := 2) 65 (prs_mem (by decide) (by decide)) (by decide) rfl rfl rfl dX12_book_65 ?_
            refine j_imul 66 dX12_book_66 ?_
            refine j_iadd 67 dX12_book_67 ?_
            refine j_bndi (fun x5_5 => ?_)
            refine j_istore (lv2 := [(5, .int x5_5), (0, .ref (ad 11 0)), (1, .int p1), (2, .int p2), (3, .int p3), (4, .int p4)]) 68 dX12_book_68 (by decide) rfl ?_
            refine j_aload_n 70 1 dX12_book_70 rfl rfl ?_
            refine j_getr (c2 := 58) (n2 := 0) 71 5 nX12_book_X12 rfl (by decide) (prs_mem (by decide) (by decide)) (by decide) (by decide) wX12_book_f25 (Or.inl rfl) rfl rfl rfl dX12_book_71 ?_
            refine j_iload 74 0 dX12_book_74 rfl ?_
            refine j_iload_n 76 3 dX12_book_76 rfl rfl ?_
            refine j_iast (c := 58) (n := 0) (L := 120) 77 (prs_mem (by decide) (by decide)) (by decide) rfl rfl rfl dX12_book_77 (j_bs (fun S_6 => ?_))
            refine j_aload_n 78 1 dX12_book_78 rfl rfl ?_
            refine j_getr (c2 := 58) (n2 := 0) 79 5 nX12_book_X12 rfl (by decide) (prs_mem (by decide) (by decide)) (by decide) (by decide) wX12_book_f25 (Or.inl rfl) rfl rfl rfl dX12_book_79 ?_
            refine j_iload 82 0 dX12_book_82 rfl ?_
            refine j_iconst (v := 1) 84 dX12_book_84 (by decide) ?_
            refine j_iadd 85 dX12_book_85 ?_
            refine j_iload_n 86 4 dX12_book_86 rfl rfl ?_
            refine j_iast (c := 58) (n := 0) (L := 120) 87 (prs_mem (by decide) (by decide)) (by decide) rfl rfl rfl dX12_book_87 (j_bs (fun S_7 => ?_))
            refine j_aload_n 88 1 dX12_book_88 rfl rfl ?_
            refine j_getr (c2 := 58) (n2 := 0) 89 5 nX12_book_X12 rfl (by decide) (prs_mem (by decide) (by decide)) (by decide) (by decide) wX12_book_f25 (Or.inl rfl) rfl rfl rfl dX12_book_89 ?_
            refine j_iload 92 0 dX12_book_92 rfl ?_
            refine j_iconst (v := 2) 94 dX12_book_94 (by decide) ?_
            refine j_iadd 95 dX12_book_95 ?_
            refine j_iload 96 5 dX12_book_96 rfl ?_
            refine j_iast (c := 58) (n := 0) (L := 120) 98 (prs_mem (by decide) (by decide)) (by decide) rfl rfl rfl dX12_book_98 (j_bs (fun S_8 => ?_))
            refine j_aload_n 99 1 dX12_book_99 rfl rfl ?_
            refine j_getr (c2 := 57) (n2 := 0) 100 4 nX12_book_X12 rfl (by decide) (prs_mem (by decide) (by decide)) (by decide) (by decide) wX12_book_f22 (Or.inl rfl) rfl rfl rfl dX12_book_100 ?_
            refine j_iload_n 103 2 dX12_book_103 rfl rfl ?_
            refine j_dup2 104 dX12_book_104 rfl rfl ?_
            refine j_iald (c := 57) (n := 0) (L := 2) 105 (prs_mem (by decide) (by decide)) (by decide) rfl rfl rfl dX12_book_105 ?_
            refine j_iconst (v := 1) 106 dX12_book_106 (by decide) ?_
            refine j_iadd 107 dX12_book_107 ?_
            refine j_iast (c := 57) (n := 0) (L := 2) 108 (prs_mem (by decide) (by decide)) (by decide) rfl rfl rfl dX12_book_108 (j_bs (fun S_9 => ?_))
            refine j_aload_n 109 1 dX12_book_109 rfl rfl ?_
            refine j_getr (c2 := 57) (n2 := 0) 110 4 nX12_book_X12 rfl (by decide) (prs_mem (by decide) (by decide)) (by decide) (by decide) wX12_book_f22 (Or.inl rfl) rfl rfl rfl dX12_book_110 ?_
            refine j_iload_n 113 2 dX12_book_113 rfl rfl ?_
            refine j_iald (c := 57) (n := 0) (L := 2) 114 (prs_mem (by decide) (by decide)) (by decide) rfl rfl rfl dX12_book_114 ?_
            exact j_iret 115 rfl dX12_book_115
          · refine j_bipush (v := (-3)) 52 dX12_book_52 (by decide) ?_
            exact j_iret 54 rfl dX12_book_54
        · refine j_iconst (v := (-1)) 39 dX12_book_39 (by decide) ?_
          exact j_iret 40 rfl dX12_book_40
set_option maxRecDepth 100000 in
set_option maxHeartbeats 4000000 in
theorem kX12_book {ad : Nat → Nat → Nat} (S : St) (p1 : Int32) (p2 : Int32) (p3 : Int32) (p4 : Int32) : ∀ b, fX12_book S p1 p2 p3 p4 = some b → ∀ l dC dI cy, CT l dC dI cy ad yX12_book wsX12_book 2 45 [.ref (ad 11 0), .int p1, .int p2, .int p3, .int p4] S (some (.int b.1)) b.2 :=
  fun b hb l dC dI cy => ct_of (l := l) (dC := dC) (dI := dI) (cy := cy) outei (by decide) rfl (Nat.le_of_ble_eq_true rfl) rfl (fun X γ => tX12_book X γ S p1 p2 p3 p4) b hb
-- X12_write
theorem nX12_write_X12 : ∀ w ∈ u_ws RX12 TX12 40, w ∈ wsX12_write := by decide +kernel
theorem wX12_write_c112 : Cond.constantLong RX12 112 (8) ∈ wsX12_write := by decide +kernel
theorem wX12_write_f7 : Cond.fieldLink RX12 7 "TwoTonguesModel" "length" "[I" ∈ wsX12_write := by decide +kernel
theorem wX12_write_f13 : Cond.fieldLink RX12 13 "TwoTonguesModel" "text" "[I" ∈ wsX12_write := by decide +kernel
theorem wX12_write_c114 : Cond.constantLong RX12 114 (255) ∈ wsX12_write := by decide +kernel
set_option maxRecDepth 100000 in
set_option maxHeartbeats 4000000 in
theorem tX12_write_L43 {ad : Nat → Nat → Nat} (X : Ctx) (F : Nat) (x1 : Int32) (y3 : Int64) (k93 : St → Option (Int32 × St))  (hk93 : ∀ (γ : Nat → Nat) (S : St), JJ X ad γ (RQm X ad 2 45 outei) (fcm outei) 2 45 cX12_write 6 RX12 wsX12_write (some .int) (k93 S) S 93 [(0, .ref (ad 11 0)), (1, .int x1)] []) : ∀ (n : Nat) (γ : Nat → Nat) (x5 : Int32) (S : St), JJ X ad γ (RQm X ad 2 45 outei) (fcm outei) 2 45 cX12_write 6 RX12 wsX12_write (some .int) (fX12_write_L43 F x1 y3 k93 n x5 S) S 43 [(0, .ref (ad 11 0)), (1, .int x1), (3, .long y3), (5, .int x5)] [] := by
  intro n
  induction n with
  | zero => intro _ _ _; exact j_none
  | succ n ih =>
    intro γ x5 S
    rw [show fX12_write_L43 F x1 y3 k93 (n + 1) x5 S = fX12_write_b43 F x1 y3 k93 (fX12_write_L43 F x1 y3 k93 n) x5 S from rfl]
    unfold fX12_write_b43
    refine j_iload 43 3 dX12_write_43 rfl ?_
    refine j_if_lt 45 93 dX12_write_45 (by decide) (fun _ => ?_) (fun _ => ?_)
    · refine j_sub [0, 1] rfl ?_
      exact hk93 _ S
    · refine j_aload_n 48 0 dX12_write_48 rfl rfl ?_
      refine j_getr (c2 := 54) (n2 := 0) 49 1 nX12_write_X12 rfl (by decide) (prs_mem (by decide) (by decide)) (by decide) (by decide) wX12_write_f13 (Or.inl rfl) rfl rfl rfl dX12_write_49 ?_
      refine j_sipush (v := 240) 52 dX12_write_52 (by decide) ?_
      refine j_iload_n 55 1 dX12_write_55 rfl rfl ?_
      refine j_imul 56 dX12_write_56 ?_
      refine j_aload_n 57 0 dX12_write_57 rfl rfl ?_
      refine j_getr (c2 := 53) (n2 := 0) 58 0 nX12_write_X12 rfl (by decide) (prs_mem (by decide) (by decide)) (by decide) (by decide) wX12_write_f7 (Or.inl rfl) rfl rfl rfl dX12_write_58 ?_
      refine j_iload_n 61 1 dX12_write_61 rfl rfl ?_
      refine j_iald (c := 53) (n := 0) (L := 2) 62 (prs_mem (by decide) (by decide)) (by decide) rfl rfl rfl dX12_write_62 ?_
      refine j_iadd 63 dX12_write_63 ?_
      refine j_lload_n 64 2 dX12_write_64 rfl rfl ?_
      refine j_bipush (v := 8) 65 dX12_write_65 (by decide) ?_
      refine j_iload 67 3 dX12_write_67 rfl ?_
      refine j_imul 69 dX12_write_69 ?_
      refine j_lshr 70 dX12_write_70 ?_
      refine j_ldc2 (v := 255) 71 dX12_write_71 wX12_write_c114 ?_
      refine j_land 74 dX12_write_74 ?_
      refine j_l2i 75 dX12_write_75 ?_
      refine j_iast (c := 54) (n := 0) (L := 480) 76 (prs_mem (by decide) (by decide)) (by decide) rfl rfl rfl dX12_write_76 (j_bs (fun S_4 => ?_))
      refine j_aload_n 77 0 dX12_write_77 rfl rfl ?_
      refine j_getr (c2 := 53) (n2 := 0) 78 0 nX12_write_X12 rfl (by decide) (prs_mem (by decide) (by decide)) (by decide) (by decide) wX12_write_f7 (Or.inl rfl) rfl rfl rfl dX12_write_78 ?_
      refine j_iload_n 81 1 dX12_write_81 rfl rfl ?_
      refine j_dup2 82 dX12_write_82 rfl rfl ?_
      refine j_iald (c := 53) (n := 0) (L := 2) 83 (prs_mem (by decide) (by decide)) (by decide) rfl rfl rfl dX12_write_83 ?_
      refine j_iconst (v := 1) 84 dX12_write_84 (by decide) ?_
      refine j_iadd 85 dX12_write_85 ?_
      refine j_iast (c := 53) (n := 0) (L := 2) 86 (prs_mem (by decide) (by decide)) (by decide) rfl rfl rfl dX12_write_86 (j_bs (fun S_5 => ?_))
      refine j_iinc (v := x5 + (-1)) (lv2 := [(5, .int (x5 + (-1))), (0, .ref (ad 11 0)), (1, .int x1), (3, .long y3)]) 87 3 dX12_write_87 rfl rfl (by decide) rfl ?_
      refine j_goto 90 43 dX12_write_90 (by decide) ?_
      refine j_sub [1, 2, 3, 0] rfl ?_
      exact ih _ (x5 + (-1)) S_5
set_option maxRecDepth 100000 in
set_option maxHeartbeats 4000000 in
theorem tX12_write {ad : Nat → Nat → Nat} (X : Ctx) (γ : Nat → Nat) (F : Nat) (S : St) (p1 : Int32) (p2 : Int32) (p3 : Int64) : JJ X ad γ (RQm X ad 2 45 outei) (fcm outei) 2 45 cX12_write 6 RX12 wsX12_write (some .int) (fX12_write F S p1 p2 p3) S 0 [(0, .ref (ad 11 0)), (1, .int p1), (2, .int p2), (3, .long p3)] [] := by
  unfold fX12_write
  refine j_iload_n 0 1 dX12_write_0 rfl rfl ?_
  refine j_callS_pi 1  [.int p1] [] gX12_write_X12_isTongue rfl eX12_isTongue ⟨Nat.le_of_ble_eq_true rfl, Nat.le_of_ble_eq_true rfl⟩ rfl rfl (Nat.le_of_ble_eq_true rfl) dX12_write_1 (kX12_isTongue S p1) (fun b_1 γ => ?_)
  refine j_if_eq 4 19 dX12_write_4 (by decide) (fun _ => ?_) (fun _ => ?_)
  · refine j_iconst (v := (-1)) 19 dX12_write_19 (by decide) ?_
    exact j_iret 20 rfl dX12_write_20
  · refine j_iload_n 7 2 dX12_write_7 rfl rfl ?_
    refine j_i2l 8 dX12_write_8 ?_
    refine j_lconst (v := 1) 9 dX12_write_9 (by decide) ?_
    refine j_ldc2 (v := 8) 10 dX12_write_10 wX12_write_c112 ?_
    refine j_callS_pi 13  [.long p2.toInt64, .long 1, .long 8] [] gX12_write_X12_in rfl eX12_in ⟨Nat.le_of_ble_eq_true rfl, Nat.le_of_ble_eq_true rfl⟩ rfl rfl (Nat.le_of_ble_eq_true rfl) dX12_write_13 (kX12_in S p2.toInt64 1 8) (fun b_2 γ => ?_)
    refine j_if_ne 16 21 dX12_write_16 (by decide) (fun _ => ?_) (fun _ => ?_)
    · refine j_aload_n 21 0 dX12_write_21 rfl rfl ?_
      refine j_getr (c2 := 53) (n2 := 0) 22 0 nX12_write_X12 rfl (by decide) (prs_mem (by decide) (by decide)) (by decide) (by decide) wX12_write_f7 (Or.inl rfl) rfl rfl rfl dX12_write_22 ?_
      refine j_iload_n 25 1 dX12_write_25 rfl rfl ?_
      refine j_iald (c := 53) (n := 0) (L := 2) 26 (prs_mem (by decide) (by decide)) (by decide) rfl rfl rfl dX12_write_26 ?_
      refine j_iload_n 27 2 dX12_write_27 rfl rfl ?_
      refine j_iadd 28 dX12_write_28 ?_
      refine j_sipush (v := 240) 29 dX12_write_29 (by decide) ?_
      refine j_icmp_le 32 38 dX12_write_32 (by decide) (fun _ => ?_) (fun _ => ?_)
      · refine j_iload_n 38 2 dX12_write_38 rfl rfl ?_
        refine j_iconst (v := 1) 39 dX12_write_39 (by decide) ?_
        refine j_isub 40 dX12_write_40 ?_
        refine j_bndi (fun x5_3 => ?_)
        refine j_istore (lv2 := [(5, .int x5_3), (0, .ref (ad 11 0)), (1, .int p1), (2, .int p2), (3, .long p3)]) 41 dX12_write_41 (by decide) rfl ?_
        refine j_sub [1, 2, 4, 0] rfl ?_
        refine tX12_write_L43 X F p1 p3 _ (fun γ S_6 => ?_) F _ x5_3 S
        refine j_aload_n 93 0 dX12_write_93 rfl rfl ?_
        refine j_getr (c2 := 53) (n2 := 0) 94 0 nX12_write_X12 rfl (by decide) (prs_mem (by decide) (by decide)) (by decide) (by decide) wX12_write_f7 (Or.inl rfl) rfl rfl rfl dX12_write_94 ?_
        refine j_iload_n 97 1 dX12_write_97 rfl rfl ?_
        refine j_iald (c := 53) (n := 0) (L := 2) 98 (prs_mem (by decide) (by decide)) (by decide) rfl rfl rfl dX12_write_98 ?_
        exact j_iret 99 rfl dX12_write_99
      · refine j_bipush (v := (-3)) 35 dX12_write_35 (by decide) ?_
        exact j_iret 37 rfl dX12_write_37
    · refine j_iconst (v := (-1)) 19 dX12_write_19 (by decide) ?_
      exact j_iret 20 rfl dX12_write_20
set_option maxRecDepth 100000 in
set_option maxHeartbeats 4000000 in
theorem kX12_write {ad : Nat → Nat → Nat} (F : Nat) (S : St) (p1 : Int32) (p2 : Int32) (p3 : Int64) : ∀ b, fX12_write F S p1 p2 p3 = some b → ∀ l dC dI cy, CT l dC dI cy ad yX12_write wsX12_write 2 45 [.ref (ad 11 0), .int p1, .int p2, .long p3] S (some (.int b.1)) b.2 :=
  fun b hb l dC dI cy => ct_of (l := l) (dC := dC) (dI := dI) (cy := cy) outei (by decide) rfl (Nat.le_of_ble_eq_true rfl) rfl (fun X γ => tX12_write X γ F S p1 p2 p3) b hb
-- X12_wipe
theorem nX12_wipe_X12 : ∀ w ∈ u_ws RX12 TX12 40, w ∈ wsX12_wipe := by decide +kernel
theorem wX12_wipe_f7 : Cond.fieldLink RX12 7 "TwoTonguesModel" "length" "[I" ∈ wsX12_wipe := by decide +kernel
set_option maxRecDepth 100000 in
set_option maxHeartbeats 4000000 in
theorem tX12_wipe {ad : Nat → Nat → Nat} (X : Ctx) (γ : Nat → Nat) (S : St) (p1 : Int32) : JJ X ad γ (RQm X ad 2 45 outei) (fcm outei) 2 45 cX12_wipe 3 RX12 wsX12_wipe (some .int) (fX12_wipe S p1) S 0 [(0, .ref (ad 11 0)), (1, .int p1)] [] := by
  unfold fX12_wipe
  refine j_iload_n 0 1 dX12_wipe_0 rfl rfl ?_
  refine j_callS_pi 1  [.int p1] [] gX12_wipe_X12_isTongue rfl eX12_isTongue ⟨Nat.le_of_ble_eq_true rfl, Nat.le_of_ble_eq_true rfl⟩ rfl rfl (Nat.le_of_ble_eq_true rfl) dX12_wipe_1 (kX12_isTongue S p1) (fun b_1 γ => ?_)
  refine j_if_ne 4 9 dX12_wipe_4 (by decide) (fun _ => ?_) (fun _ => ?_)
  · refine j_aload_n 9 0 dX12_wipe_9 rfl rfl ?_
    refine j_getr (c2 := 53) (n2 := 0) 10 0 nX12_wipe_X12 rfl (by decide) (prs_mem (by decide) (by decide)) (by decide) (by decide) wX12_wipe_f7 (Or.inl rfl) rfl rfl rfl dX12_wipe_10 ?_
    refine j_iload_n 13 1 dX12_wipe_13 rfl rfl ?_
    refine j_iald (c := 53) (n := 0) (L := 2) 14 (prs_mem (by decide) (by decide)) (by decide) rfl rfl rfl dX12_wipe_14 ?_
    refine j_bndi (fun x2_2 => ?_)
    refine j_istore_n (lv2 := [(2, .int x2_2), (0, .ref (ad 11 0)), (1, .int p1)]) 15 dX12_wipe_15 rfl (by decide) rfl ?_
    refine j_aload_n 16 1 dX12_wipe_16 rfl rfl ?_
    refine j_getr (c2 := 53) (n2 := 0) 17 0 nX12_wipe_X12 rfl (by decide) (prs_mem (by decide) (by decide)) (by decide) (by decide) wX12_wipe_f7 (Or.inl rfl) rfl rfl rfl dX12_wipe_17 ?_
    refine j_iload_n 20 2 dX12_wipe_20 rfl rfl ?_
    refine j_iconst (v := 0) 21 dX12_wipe_21 (by decide) ?_
    refine j_iast (c := 53) (n := 0) (L := 2) 22 (prs_mem (by decide) (by decide)) (by decide) rfl rfl rfl dX12_wipe_22 (j_bs (fun S_3 => ?_))
    refine j_iload_n 23 0 dX12_wipe_23 rfl rfl ?_
    exact j_iret 24 rfl dX12_wipe_24
  · refine j_iconst (v := (-1)) 7 dX12_wipe_7 (by decide) ?_
    exact j_iret 8 rfl dX12_wipe_8
set_option maxRecDepth 100000 in
set_option maxHeartbeats 4000000 in
theorem kX12_wipe {ad : Nat → Nat → Nat} (S : St) (p1 : Int32) : ∀ b, fX12_wipe S p1 = some b → ∀ l dC dI cy, CT l dC dI cy ad yX12_wipe wsX12_wipe 2 45 [.ref (ad 11 0), .int p1] S (some (.int b.1)) b.2 :=
  fun b hb l dC dI cy => ct_of (l := l) (dC := dC) (dI := dI) (cy := cy) outei (by decide) rfl (Nat.le_of_ble_eq_true rfl) rfl (fun X γ => tX12_wipe X γ S p1) b hb
-- X12_byteAt
theorem nX12_byteAt_X12 : ∀ w ∈ u_ws RX12 TX12 40, w ∈ wsX12_byteAt := by decide +kernel
theorem wX12_byteAt_f7 : Cond.fieldLink RX12 7 "TwoTonguesModel" "length" "[I" ∈ wsX12_byteAt := by decide +kernel
theorem wX12_byteAt_f13 : Cond.fieldLink RX12 13 "TwoTonguesModel" "text" "[I" ∈ wsX12_byteAt := by decide +kernel
set_option maxRecDepth 100000 in
set_option maxHeartbeats 4000000 in
theorem tX12_byteAt {ad : Nat → Nat → Nat} (X : Ctx) (γ : Nat → Nat) (S : St) (p1 : Int32) (p2 : Int32) : JJ X ad γ (RQm X ad 0 0 (outpi S)) (fcm (outpi S)) 0 0 cX12_byteAt 3 RX12 wsX12_byteAt (some .int) (fX12_byteAt S p1 p2) S 0 [(0, .ref (ad 11 0)), (1, .int p1), (2, .int p2)] [] := by
  unfold fX12_byteAt
  refine j_iload_n 0 2 dX12_byteAt_0 rfl rfl ?_
  refine j_aload_n 1 0 dX12_byteAt_1 rfl rfl ?_
  refine j_getr (c2 := 53) (n2 := 0) 2 0 nX12_byteAt_X12 rfl (by decide) (prs_mem (by decide) (by decide)) (by decide) (by decide) wX12_byteAt_f7 (Or.inl rfl) rfl rfl rfl dX12_byteAt_2 ?_
  refine j_iload_n 5 1 dX12_byteAt_5 rfl rfl ?_
  refine j_iald (c := 53) (n := 0) (L := 2) 6 (prs_mem (by decide) (by decide)) (by decide) rfl rfl rfl dX12_byteAt_6 ?_
  refine j_icmp_ge 7 25 dX12_byteAt_7 (by decide) (fun _ => ?_) (fun _ => ?_)
  · refine j_iconst (v := (-1)) 25 dX12_byteAt_25 (by decide) ?_
    exact j_iret 26 rfl dX12_byteAt_26
  · refine j_aload_n 10 0 dX12_byteAt_10 rfl rfl ?_
    refine j_getr (c2 := 54) (n2 := 0) 11 1 nX12_byteAt_X12 rfl (by decide) (prs_mem (by decide) (by decide)) (by decide) (by decide) wX12_byteAt_f13 (Or.inl rfl) rfl rfl rfl dX12_byteAt_11 ?_
    refine j_sipush (v := 240) 14 dX12_byteAt_14 (by decide) ?_
    refine j_iload_n 17 1 dX12_byteAt_17 rfl rfl ?_
    refine j_imul 18 dX12_byteAt_18 ?_
    refine j_iload_n 19 2 dX12_byteAt_19 rfl rfl ?_
    refine j_iadd 20 dX12_byteAt_20 ?_
    refine j_iald (c := 54) (n := 0) (L := 480) 21 (prs_mem (by decide) (by decide)) (by decide) rfl rfl rfl dX12_byteAt_21 ?_
    refine j_goto 22 26 dX12_byteAt_22 (by decide) ?_
    exact j_iret 26 rfl dX12_byteAt_26
set_option maxRecDepth 100000 in
set_option maxHeartbeats 4000000 in
theorem kX12_byteAt {ad : Nat → Nat → Nat} (S : St) (p1 : Int32) (p2 : Int32) : ∀ b, fX12_byteAt S p1 p2 = some b → ∀ l dC dI cy, CT l dC dI cy ad yX12_byteAt wsX12_byteAt 0 0 [.ref (ad 11 0), .int p1, .int p2] S (some (.int b)) S :=
  fun b hb l dC dI cy => ct_of (l := l) (dC := dC) (dI := dI) (cy := cy) (outpi S) (by decide) rfl (Nat.le_of_ble_eq_true rfl) rfl (fun X γ => tX12_byteAt X γ S p1 p2) b hb
-- X12_numbers
theorem nX12_numbers_X12 : ∀ w ∈ u_ws RX12 TX12 40, w ∈ wsX12_numbers := by decide +kernel
theorem wX12_numbers_f116 : Cond.fieldLink RX12 116 "TwoTonguesModel" "at" "I" ∈ wsX12_numbers := by decide +kernel
theorem wX12_numbers_c124 : Cond.constantLong RX12 124 (48) ∈ wsX12_numbers := by decide +kernel
theorem wX12_numbers_c126 : Cond.constantLong RX12 126 (57) ∈ wsX12_numbers := by decide +kernel
theorem wX12_numbers_c128 : Cond.constantLong RX12 128 (3) ∈ wsX12_numbers := by decide +kernel
theorem wX12_numbers_f70 : Cond.fieldLink RX12 70 "TwoTonguesModel" "told" "[I" ∈ wsX12_numbers := by decide +kernel
set_option maxRecDepth 100000 in
set_option maxHeartbeats 4000000 in
theorem tX12_numbers_L13 {ad : Nat → Nat → Nat} (X : Ctx) (F : Nat) (x1 : Int32) (x2 : Int32) (x3 : Int32) (k77 : Int32 → Int32 → St → Option (Int32 × St))  (hk77 : ∀ (γ : Nat → Nat) (x4 : Int32) (x5 : Int32) (S : St), JJ X ad γ (RQm X ad 1 25 outei) (fcm outei) 1 25 cX12_numbers 6 RX12 wsX12_numbers (some .boolean) (k77 x4 x5 S) S 77 [(0, .ref (ad 11 0)), (1, .int x1), (2, .int x2), (3, .int x3), (4, .int x4), (5, .int x5)] []) : ∀ (n : Nat) (γ : Nat → Nat) (x4 : Int32) (x5 : Int32) (S : St), JJ X ad γ (RQm X ad 1 25 outei) (fcm outei) 1 25 cX12_numbers 6 RX12 wsX12_numbers (some .boolean) (fX12_numbers_L13 F x1 x2 x3 k77 n x4 x5 S) S 13 [(0, .ref (ad 11 0)), (1, .int x1), (2, .int x2), (3, .int x3), (4, .int x4), (5, .int x5)] [] := by
  intro n
  induction n with
  | zero => intro _ _ _ _; exact j_none
  | succ n ih =>
    intro γ x4 x5 S
    rw [show fX12_numbers_L13 F x1 x2 x3 k77 (n + 1) x4 x5 S = fX12_numbers_b13 F x1 x2 x3 k77 (fX12_numbers_L13 F x1 x2 x3 k77 n) x4 x5 S from rfl]
    unfold fX12_numbers_b13
    refine j_aload_n 13 0 dX12_numbers_13 rfl rfl ?_
    refine j_iload_n 14 1 dX12_numbers_14 rfl rfl ?_
    refine j_aload_n 15 0 dX12_numbers_15 rfl rfl ?_
    refine j_geti 16 28 nX12_numbers_X12 rfl (by decide) (prs_mem (by decide) (by decide)) (by decide) (by decide) wX12_numbers_f116 (Or.inl rfl) rfl dX12_numbers_16 ?_
    refine j_callV_pi 19 rfl (by decide) (prs_mem (by decide) (by decide))  [.int x1, .int (gI S 11 0 28)] [] gX12_numbers_X12_byteAt rfl eX12_byteAt ⟨Nat.le_of_ble_eq_true rfl, Nat.le_of_ble_eq_true rfl⟩ rfl rfl (Nat.le_of_ble_eq_true rfl) dX12_numbers_19 (kX12_byteAt S x1 (gI S 11 0 28)) (fun b_1 γ => ?_)
    refine j_i2l 22 dX12_numbers_22 ?_
    refine j_ldc2 (v := 48) 23 dX12_numbers_23 wX12_numbers_c124 ?_
    refine j_ldc2 (v := 57) 26 dX12_numbers_26 wX12_numbers_c126 ?_
    refine j_callS_pi 29  [.long b_1.toInt64, .long 48, .long 57] [] gX12_numbers_X12_in rfl eX12_in ⟨Nat.le_of_ble_eq_true rfl, Nat.le_of_ble_eq_true rfl⟩ rfl rfl (Nat.le_of_ble_eq_true rfl) dX12_numbers_29 (kX12_in S b_1.toInt64 48 57) (fun b_2 γ => ?_)
    refine j_if_eq 32 77 dX12_numbers_32 (by decide) (fun _ => ?_) (fun _ => ?_)
    · exact hk77 _ x4 x5 S
    · refine j_iload 35 4 dX12_numbers_35 rfl ?_
      refine j_iconst (v := 4) 37 dX12_numbers_37 (by decide) ?_
      refine j_icmp_ge 38 77 dX12_numbers_38 (by decide) (fun _ => ?_) (fun _ => ?_)
      · exact hk77 _ x4 x5 S
      · refine j_bipush (v := 10) 41 dX12_numbers_41 (by decide) ?_
        refine j_iload 43 5 dX12_numbers_43 rfl ?_
        refine j_imul 45 dX12_numbers_45 ?_
        refine j_aload_n 46 0 dX12_numbers_46 rfl rfl ?_
        refine j_iload_n 47 1 dX12_numbers_47 rfl rfl ?_
        refine j_aload_n 48 0 dX12_numbers_48 rfl rfl ?_
        refine j_geti 49 28 nX12_numbers_X12 rfl (by decide) (prs_mem (by decide) (by decide)) (by decide) (by decide) wX12_numbers_f116 (Or.inl rfl) rfl dX12_numbers_49 ?_
        refine j_callV_pi 52 rfl (by decide) (prs_mem (by decide) (by decide))  [.int x1, .int (gI S 11 0 28)] [.int ((10 : Int32) * x5)] gX12_numbers_X12_byteAt rfl eX12_byteAt ⟨Nat.le_of_ble_eq_true rfl, Nat.le_of_ble_eq_true rfl⟩ rfl rfl (Nat.le_of_ble_eq_true rfl) dX12_numbers_52 (kX12_byteAt S x1 (gI S 11 0 28)) (fun b_3 γ => ?_)
        refine j_iadd 55 dX12_numbers_55 ?_
        refine j_bipush (v := 48) 56 dX12_numbers_56 (by decide) ?_
        refine j_isub 58 dX12_numbers_58 ?_
        refine j_bndi (fun x5_4 => ?_)
        refine j_istore (lv2 := [(5, .int x5_4), (0, .ref (ad 11 0)), (1, .int x1), (2, .int x2), (3, .int x3), (4, .int x4)]) 59 dX12_numbers_59 (by decide) rfl ?_
        refine j_iinc (v := x4 + 1) (lv2 := [(4, .int (x4 + 1)), (5, .int x5_4), (0, .ref (ad 11 0)), (1, .int x1), (2, .int x2), (3, .int x3)]) 61 5 dX12_numbers_61 rfl rfl (by decide) rfl ?_
        refine j_aload_n 64 2 dX12_numbers_64 rfl rfl ?_
        refine j_dup 65 dX12_numbers_65 rfl ?_
        refine j_geti 66 28 nX12_numbers_X12 rfl (by decide) (prs_mem (by decide) (by decide)) (by decide) (by decide) wX12_numbers_f116 (Or.inl rfl) rfl dX12_numbers_66 ?_
        refine j_iconst (v := 1) 69 dX12_numbers_69 (by decide) ?_
        refine j_iadd 70 dX12_numbers_70 ?_
        refine j_puti 71 28 nX12_numbers_X12 rfl (by decide) (prs_mem (by decide) (by decide)) (by decide) (by decide) wX12_numbers_f116 (Or.inl rfl) tyX12 tyX12_ok nmX12 rfl (by decide) rfl dX12_numbers_71 (j_bs (fun S_5 => ?_))
        refine j_goto 74 13 dX12_numbers_74 (by decide) ?_
        refine j_sub [2, 3, 4, 5, 0, 1] rfl ?_
        exact ih _ (x4 + 1) x5_4 S_5
set_option maxRecDepth 100000 in
set_option maxHeartbeats 4000000 in
theorem tX12_numbers_j113 {ad : Nat → Nat → Nat} (X : Ctx) (γ : Nat → Nat) (F : Nat) (S : St) (x1 : Int32) (x2 : Int32) (x3 : Int32) (x5 : Int32) (s0 : Int32) (s1 : Int32) (rec : Int32 → St → Option (Int32 × St))  (ih : ∀ (γ : Nat → Nat) (x3 : Int32) (S : St), JJ X ad γ (RQm X ad 1 25 outei) (fcm outei) 1 25 cX12_numbers 6 RX12 wsX12_numbers (some .boolean) (rec x3 S) S 2 [(0, .ref (ad 11 0)), (1, .int x1), (2, .int x2), (3, .int x3)] []) : JJ X ad γ (RQm X ad 1 25 outei) (fcm outei) 1 25 cX12_numbers 6 RX12 wsX12_numbers (some .boolean) (fX12_numbers_j113 F S x1 x2 x3 x5 s0 s1 rec) S 113 [(0, .ref (ad 11 0)), (1, .int x1), (2, .int x2), (3, .int x3), (5, .int x5)] [.int s0, .int s1] := by
  unfold fX12_numbers_j113
  refine j_icmp_eq 113 118 dX12_numbers_113 (by decide) (fun _ => ?_) (fun _ => ?_)
  · refine j_aload_n 118 0 dX12_numbers_118 rfl rfl ?_
    refine j_getr (c2 := 73) (n2 := 0) 119 29 nX12_numbers_X12 rfl (by decide) (prs_mem (by decide) (by decide)) (by decide) (by decide) wX12_numbers_f70 (Or.inl rfl) rfl rfl rfl dX12_numbers_119 ?_
    refine j_iload_n 122 3 dX12_numbers_122 rfl rfl ?_
    refine j_iload 123 4 dX12_numbers_123 rfl ?_
    refine j_iast (c := 73) (n := 0) (L := 5) 125 (prs_mem (by decide) (by decide)) (by decide) rfl rfl rfl dX12_numbers_125 (j_bs (fun S_11 => ?_))
    refine j_aload_n 126 0 dX12_numbers_126 rfl rfl ?_
    refine j_dup 127 dX12_numbers_127 rfl ?_
    refine j_geti 128 28 nX12_numbers_X12 rfl (by decide) (prs_mem (by decide) (by decide)) (by decide) (by decide) wX12_numbers_f116 (Or.inl rfl) rfl dX12_numbers_128 ?_
    refine j_iconst (v := 1) 131 dX12_numbers_131 (by decide) ?_
    refine j_iadd 132 dX12_numbers_132 ?_
    refine j_puti 133 28 nX12_numbers_X12 rfl (by decide) (prs_mem (by decide) (by decide)) (by decide) (by decide) wX12_numbers_f116 (Or.inl rfl) tyX12 tyX12_ok nmX12 rfl (by decide) rfl dX12_numbers_133 (j_bs (fun S_12 => ?_))
    refine j_iinc (v := x3 + 1) (lv2 := [(3, .int (x3 + 1)), (0, .ref (ad 11 0)), (1, .int x1), (2, .int x2), (5, .int x5)]) 136 3 dX12_numbers_136 rfl rfl (by decide) rfl ?_
    refine j_goto 139 2 dX12_numbers_139 (by decide) ?_
    refine j_sub [1, 2, 3, 0] rfl ?_
    exact ih _ (x3 + 1) S_12
  · refine j_iconst (v := 0) 116 dX12_numbers_116 (by decide) ?_
    exact j_zret 117 (by decide) rfl dX12_numbers_117
set_option maxRecDepth 100000 in
set_option maxHeartbeats 4000000 in
theorem tX12_numbers_j77 {ad : Nat → Nat → Nat} (X : Ctx) (γ : Nat → Nat) (F : Nat) (S : St) (x1 : Int32) (x2 : Int32) (x3 : Int32) (x4 : Int32) (x5 : Int32) (rec : Int32 → St → Option (Int32 × St))  (ih : ∀ (γ : Nat → Nat) (x3 : Int32) (S : St), JJ X ad γ (RQm X ad 1 25 outei) (fcm outei) 1 25 cX12_numbers 6 RX12 wsX12_numbers (some .boolean) (rec x3 S) S 2 [(0, .ref (ad 11 0)), (1, .int x1), (2, .int x2), (3, .int x3)] []) : JJ X ad γ (RQm X ad 1 25 outei) (fcm outei) 1 25 cX12_numbers 6 RX12 wsX12_numbers (some .boolean) (fX12_numbers_j77 F S x1 x2 x3 x4 x5 rec) S 77 [(0, .ref (ad 11 0)), (1, .int x1), (2, .int x2), (3, .int x3), (4, .int x4), (5, .int x5)] [] := by
  unfold fX12_numbers_j77
  refine j_iload 77 4 dX12_numbers_77 rfl ?_
  refine j_i2l 79 dX12_numbers_79 ?_
  refine j_lconst (v := 1) 80 dX12_numbers_80 (by decide) ?_
  refine j_ldc2 (v := 3) 81 dX12_numbers_81 wX12_numbers_c128 ?_
  refine j_callS_pi 84  [.long x4.toInt64, .long 1, .long 3] [] gX12_numbers_X12_in rfl eX12_in ⟨Nat.le_of_ble_eq_true rfl, Nat.le_of_ble_eq_true rfl⟩ rfl rfl (Nat.le_of_ble_eq_true rfl) dX12_numbers_84 (kX12_in S x4.toInt64 1 3) (fun b_9 γ => ?_)
  refine j_if_eq 87 116 dX12_numbers_87 (by decide) (fun _ => ?_) (fun _ => ?_)
  · refine j_iconst (v := 0) 116 dX12_numbers_116 (by decide) ?_
    exact j_zret 117 (by decide) rfl dX12_numbers_117
  · refine j_aload_n 90 0 dX12_numbers_90 rfl rfl ?_
    refine j_iload_n 91 1 dX12_numbers_91 rfl rfl ?_
    refine j_aload_n 92 0 dX12_numbers_92 rfl rfl ?_
    refine j_geti 93 28 nX12_numbers_X12 rfl (by decide) (prs_mem (by decide) (by decide)) (by decide) (by decide) wX12_numbers_f116 (Or.inl rfl) rfl dX12_numbers_93 ?_
    refine j_callV_pi 96 rfl (by decide) (prs_mem (by decide) (by decide))  [.int x1, .int (gI S 11 0 28)] [] gX12_numbers_X12_byteAt rfl eX12_byteAt ⟨Nat.le_of_ble_eq_true rfl, Nat.le_of_ble_eq_true rfl⟩ rfl rfl (Nat.le_of_ble_eq_true rfl) dX12_numbers_96 (kX12_byteAt S x1 (gI S 11 0 28)) (fun b_10 γ => ?_)
    refine j_iload_n 99 3 dX12_numbers_99 rfl rfl ?_
    refine j_iload_n 100 2 dX12_numbers_100 rfl rfl ?_
    refine j_iconst (v := 1) 101 dX12_numbers_101 (by decide) ?_
    refine j_isub 102 dX12_numbers_102 ?_
    refine j_icmp_ge 103 111 dX12_numbers_103 (by decide) (fun _ => ?_) (fun _ => ?_)
    · refine j_bipush (v := 59) 111 dX12_numbers_111 (by decide) ?_
      refine j_sub [0, 1, 2, 3, 5] rfl ?_
      exact tX12_numbers_j113 X _ F S x1 x2 x3 x5 59 b_10 _ ih
    · refine j_bipush (v := 44) 106 dX12_numbers_106 (by decide) ?_
      refine j_goto 108 113 dX12_numbers_108 (by decide) ?_
      refine j_sub [0, 1, 2, 3, 5] rfl ?_
      exact tX12_numbers_j113 X _ F S x1 x2 x3 x5 44 b_10 _ ih
set_option maxRecDepth 100000 in
set_option maxHeartbeats 4000000 in
theorem tX12_numbers_L2 {ad : Nat → Nat → Nat} (X : Ctx) (F : Nat) (x1 : Int32) (x2 : Int32)   : ∀ (n : Nat) (γ : Nat → Nat) (x3 : Int32) (S : St), JJ X ad γ (RQm X ad 1 25 outei) (fcm outei) 1 25 cX12_numbers 6 RX12 wsX12_numbers (some .boolean) (fX12_numbers_L2 F x1 x2 n x3 S) S 2 [(0, .ref (ad 11 0)), (1, .int x1), (2, .int x2), (3, .int x3)] [] := by
  intro n
  induction n with
  | zero => intro _ _ _; exact j_none
  | succ n ih =>
    intro γ x3 S
    rw [show fX12_numbers_L2 F x1 x2 (n + 1) x3 S = fX12_numbers_b2 F x1 x2 (fX12_numbers_L2 F x1 x2 n) x3 S from rfl]
    unfold fX12_numbers_b2
    refine j_iload_n 2 3 dX12_numbers_2 rfl rfl ?_
    refine j_iload_n 3 2 dX12_numbers_3 rfl rfl ?_
    refine j_icmp_ge 4 142 dX12_numbers_4 (by decide) (fun _ => ?_) (fun _ => ?_)
    · refine j_iconst (v := 1) 142 dX12_numbers_142 (by decide) ?_
      exact j_zret 143 (by decide) rfl dX12_numbers_143
    · refine j_iconst (v := 0) 7 dX12_numbers_7 (by decide) ?_
      refine j_istore (lv2 := [(4, .int 0), (0, .ref (ad 11 0)), (1, .int x1), (2, .int x2), (3, .int x3)]) 8 dX12_numbers_8 (by decide) rfl ?_
      refine j_iconst (v := 0) 10 dX12_numbers_10 (by decide) ?_
      refine j_istore (lv2 := [(5, .int 0), (4, .int 0), (0, .ref (ad 11 0)), (1, .int x1), (2, .int x2), (3, .int x3)]) 11 dX12_numbers_11 (by decide) rfl ?_
      refine j_sub [2, 3, 4, 5, 1, 0] rfl ?_
      refine tX12_numbers_L13 X F x1 x2 x3 _ (fun γ x4_7 x5_8 S_6 => ?_) F _ 0 0 S
      exact tX12_numbers_j77 X _ F S_6 x1 x2 x3 x4_7 x5_8 _ ih
set_option maxRecDepth 100000 in
set_option maxHeartbeats 4000000 in
theorem tX12_numbers {ad : Nat → Nat → Nat} (X : Ctx) (γ : Nat → Nat) (F : Nat) (S : St) (p1 : Int32) (p2 : Int32) : JJ X ad γ (RQm X ad 1 25 outei) (fcm outei) 1 25 cX12_numbers 6 RX12 wsX12_numbers (some .boolean) (fX12_numbers F S p1 p2) S 0 [(0, .ref (ad 11 0)), (1, .int p1), (2, .int p2)] [] := by
  unfold fX12_numbers
  refine j_iconst (v := 0) 0 dX12_numbers_0 (by decide) ?_
  refine j_istore_n (lv2 := [(3, .int 0), (0, .ref (ad 11 0)), (1, .int p1), (2, .int p2)]) 1 dX12_numbers_1 rfl (by decide) rfl ?_
  refine j_sub [1, 2, 3, 0] rfl ?_
  exact tX12_numbers_L2 X F p1 p2 F _ 0 S
set_option maxRecDepth 100000 in
set_option maxHeartbeats 4000000 in
theorem kX12_numbers {ad : Nat → Nat → Nat} (F : Nat) (S : St) (p1 : Int32) (p2 : Int32) : ∀ b, fX12_numbers F S p1 p2 = some b → ∀ l dC dI cy, CT l dC dI cy ad yX12_numbers wsX12_numbers 1 25 [.ref (ad 11 0), .int p1, .int p2] S (some (.int b.1)) b.2 :=
  fun b hb l dC dI cy => ct_of (l := l) (dC := dC) (dI := dI) (cy := cy) outei (by decide) rfl (Nat.le_of_ble_eq_true rfl) rfl (fun X γ => tX12_numbers X γ F S p1 p2) b hb
