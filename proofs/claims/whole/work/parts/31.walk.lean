-- X5_arrange_h
theorem nX5_arrange_X2 : ∀ w ∈ u_ws RX2 TX2 5, w ∈ wsX5_arrange := by decide +kernel
theorem wX5_arrange_f15 : Cond.fieldLink RX5 15 "TwoTongues$Order" "claims" "LTwoTongues$Claims;" ∈ wsX5_arrange := by decide +kernel
theorem wX5_arrange_f25 : Cond.fieldLink RX5 25 "TwoTongues$Order" "all" "I" ∈ wsX5_arrange := by decide +kernel
theorem wX5_arrange_f9 : Cond.fieldLink RX5 9 "TwoTongues$Order" "rest" "[I" ∈ wsX5_arrange := by decide +kernel
set_option maxRecDepth 100000 in
set_option maxHeartbeats 4000000 in
theorem tX5_arrange_h_L18 {ad : Nat → Nat → Nat} (X : Ctx) (F : Nat) (k50 : St → Option (Int32 × St))  (hk50 : ∀ (γ : Nat → Nat) (S : St), JJ X ad γ (RQm X ad 4 91 outei) (fcm outei) 4 91 cX5_arrange 3 RX5 wsX5_arrange (some .int) (k50 S) S 50 [(0, .ref (ad 2 0))] []) : ∀ (n : Nat) (γ : Nat → Nat) (x2 : Int32) (S : St), JJ X ad γ (RQm X ad 4 91 outei) (fcm outei) 4 91 cX5_arrange 3 RX5 wsX5_arrange (some .int) (fX5_arrange_h_L18 F k50 n x2 S) S 18 [(0, .ref (ad 2 0)), (2, .int x2)] [] := by
  intro n
  induction n with
  | zero => intro _ _ _; exact j_none
  | succ n ih =>
    intro γ x2 S
    rw [show fX5_arrange_h_L18 F k50 (n + 1) x2 S = fX5_arrange_h_b18 F k50 (fX5_arrange_h_L18 F k50 n) x2 S from rfl]
    unfold fX5_arrange_h_b18
    refine j_iload_n 18 1 dX5_arrange_18 rfl rfl ?_
    refine j_if_lt 19 50 dX5_arrange_19 (by decide) (fun _ => ?_) (fun _ => ?_)
    · refine j_sub [0] rfl ?_
      exact hk50 _ S
    · refine j_iload_n 22 1 dX5_arrange_22 rfl rfl ?_
      refine j_aload_n 23 0 dX5_arrange_23 rfl rfl ?_
      refine j_geti 24 2 nX5_arrange_X2 rfl (by decide) (prs_mem (by decide) (by decide)) (by decide) (by decide) wX5_arrange_f25 (Or.inl rfl) rfl dX5_arrange_24 ?_
      refine j_iconst (v := (-1)) 27 dX5_arrange_27 (by decide) ?_
      refine j_ixor 28 dX5_arrange_28 ?_
      refine j_iand 29 dX5_arrange_29 ?_
      refine j_if_ne 30 44 dX5_arrange_30 (by decide) (fun _ => ?_) (fun _ => ?_)
      · refine j_iinc (v := x2 + (-1)) (lv2 := [(2, .int (x2 + (-1))), (0, .ref (ad 2 0))]) 44 1 dX5_arrange_44 rfl rfl (by decide) rfl ?_
        refine j_goto 47 18 dX5_arrange_47 (by decide) ?_
        refine j_sub [1, 0] rfl ?_
        exact ih _ (x2 + (-1)) S
      · refine j_aload_n 33 0 dX5_arrange_33 rfl rfl ?_
        refine j_getr (c2 := 19) (n2 := 0) 34 1 nX5_arrange_X2 rfl (by decide) (prs_mem (by decide) (by decide)) (by decide) (by decide) wX5_arrange_f9 (Or.inl rfl) rfl rfl rfl dX5_arrange_34 ?_
        refine j_iload_n 37 1 dX5_arrange_37 rfl rfl ?_
        refine j_aload_n 38 0 dX5_arrange_38 rfl rfl ?_
        refine j_iload_n 39 1 dX5_arrange_39 rfl rfl ?_
        refine j_callU_pi 40 rfl (by decide) (prs_mem (by decide) (by decide))  [.int x2] [.int x2, .ref (ad 19 0)] (n := 1) (owner := "TwoTongues$Order") (x := ⟨"TwoTongues$Order", "cheapestRest", "(I)I"⟩) gX5_arrange_X5_cheapestRest_u29X2 rfl rfl (by decide +kernel) ⟨Nat.le_of_ble_eq_true rfl, Nat.le_of_ble_eq_true rfl⟩ rfl rfl (Nat.le_of_ble_eq_true rfl) dX5_arrange_40 (kX5_cheapestRest_h F S x2) (fun b_4 γ => ?_)
        refine j_iast (c := 19) (n := 0) (L := 512) 43 (prs_mem (by decide) (by decide)) (by decide) rfl rfl rfl dX5_arrange_43 (j_bs (fun S_5 => ?_))
        refine j_iinc (v := x2 + (-1)) (lv2 := [(2, .int (x2 + (-1))), (0, .ref (ad 2 0))]) 44 1 dX5_arrange_44 rfl rfl (by decide) rfl ?_
        refine j_goto 47 18 dX5_arrange_47 (by decide) ?_
        refine j_sub [1, 0] rfl ?_
        exact ih _ (x2 + (-1)) S_5
set_option maxRecDepth 100000 in
set_option maxHeartbeats 4000000 in
theorem tX5_arrange_h {ad : Nat → Nat → Nat} (X : Ctx) (γ : Nat → Nat) (F : Nat) (S : St) (p1 : Int32) : JJ X ad γ (RQm X ad 4 91 outei) (fcm outei) 4 91 cX5_arrange 3 RX5 wsX5_arrange (some .int) (fX5_arrange_h F S p1) S 0 [(0, .ref (ad 2 0)), (1, .int p1)] [] := by
  unfold fX5_arrange_h
  refine j_aload_n 0 0 dX5_arrange_0 rfl rfl ?_
  refine j_iload_n 1 1 dX5_arrange_1 rfl rfl ?_
  refine j_aload_n 2 0 dX5_arrange_2 rfl rfl ?_
  refine j_getr (c2 := 0) (n2 := 0) 3 0 nX5_arrange_X2 rfl (by decide) (prs_mem (by decide) (by decide)) (by decide) (by decide) wX5_arrange_f15 (Or.inl rfl) rfl rfl rfl dX5_arrange_3 ?_
  refine j_callV_pi 6 rfl (by decide) (prs_mem (by decide) (by decide))  [] [.int p1, .ref (ad 2 0)] gX5_arrange_X0_everyOne rfl eX0_everyOne ⟨Nat.le_of_ble_eq_true rfl, Nat.le_of_ble_eq_true rfl⟩ rfl rfl (Nat.le_of_ble_eq_true rfl) dX5_arrange_6 (kX0_everyOne S) (fun b_1 γ => ?_)
  refine j_iand 9 dX5_arrange_9 ?_
  refine j_puti 10 2 nX5_arrange_X2 rfl (by decide) (prs_mem (by decide) (by decide)) (by decide) (by decide) wX5_arrange_f25 (Or.inl rfl) tyX2 tyX2_ok nmX2 rfl (by decide) rfl dX5_arrange_10 (j_bs (fun S_2 => ?_))
  refine j_aload_n 13 0 dX5_arrange_13 rfl rfl ?_
  refine j_geti 14 2 nX5_arrange_X2 rfl (by decide) (prs_mem (by decide) (by decide)) (by decide) (by decide) wX5_arrange_f25 (Or.inl rfl) rfl dX5_arrange_14 ?_
  refine j_bndi (fun x2_3 => ?_)
  refine j_istore_n (lv2 := [(2, .int x2_3), (0, .ref (ad 2 0)), (1, .int p1)]) 17 dX5_arrange_17 rfl (by decide) rfl ?_
  refine j_sub [1, 0] rfl ?_
  refine tX5_arrange_h_L18 X F _ (fun γ S_6 => ?_) F _ x2_3 S_2
  refine j_aload_n 50 0 dX5_arrange_50 rfl rfl ?_
  refine j_getr (c2 := 19) (n2 := 0) 51 1 nX5_arrange_X2 rfl (by decide) (prs_mem (by decide) (by decide)) (by decide) (by decide) wX5_arrange_f9 (Or.inl rfl) rfl rfl rfl dX5_arrange_51 ?_
  refine j_iconst (v := 0) 54 dX5_arrange_54 (by decide) ?_
  refine j_iald (c := 19) (n := 0) (L := 512) 55 (prs_mem (by decide) (by decide)) (by decide) rfl rfl rfl dX5_arrange_55 ?_
  exact j_iret 56 rfl dX5_arrange_56
set_option maxRecDepth 100000 in
set_option maxHeartbeats 4000000 in
theorem kX5_arrange_h {ad : Nat → Nat → Nat} (F : Nat) (S : St) (p1 : Int32) : ∀ b, fX5_arrange_h F S p1 = some b → ∀ l dC dI cy, CT l dC dI cy ad yX5_arrange wsX5_arrange 4 91 [.ref (ad 2 0), .int p1] S (some (.int b.1)) b.2 :=
  fun b hb l dC dI cy => ct_of (l := l) (dC := dC) (dI := dI) (cy := cy) outei (by decide) rfl (Nat.le_of_ble_eq_true rfl) rfl (fun X γ => tX5_arrange_h X γ F S p1) b hb
-- X2_arrangeFrom
theorem nX2_arrangeFrom_X2 : ∀ w ∈ u_ws RX2 TX2 5, w ∈ wsX2_arrangeFrom := by decide +kernel
theorem wX2_arrangeFrom_f13 : Cond.fieldLink RX2 13 "TwoTongues$Hearings" "from" "I" ∈ wsX2_arrangeFrom := by decide +kernel
theorem wX2_arrangeFrom_f17 : Cond.fieldLink RX2 17 "TwoTongues$Hearings" "claims" "LTwoTongues$Claims;" ∈ wsX2_arrangeFrom := by decide +kernel
theorem wX2_arrangeFrom_s17 : Cond.sameField "TwoTongues$Hearings" "TwoTongues$Order" "claims" "LTwoTongues$Claims;" ∈ wsX2_arrangeFrom := by decide +kernel
set_option maxRecDepth 100000 in
set_option maxHeartbeats 4000000 in
theorem tX2_arrangeFrom {ad : Nat → Nat → Nat} (X : Ctx) (γ : Nat → Nat) (F : Nat) (S : St) (p1 : Int32) : JJ X ad γ (RQm X ad 5 113 outei) (fcm outei) 5 113 cX2_arrangeFrom 2 RX2 wsX2_arrangeFrom (some .int) (fX2_arrangeFrom F S p1) S 0 [(0, .ref (ad 2 0)), (1, .int p1)] [] := by
  unfold fX2_arrangeFrom
  refine j_aload_n 0 0 dX2_arrangeFrom_0 rfl rfl ?_
  refine j_iload_n 1 1 dX2_arrangeFrom_1 rfl rfl ?_
  refine j_puti 2 4 nX2_arrangeFrom_X2 rfl (by decide) (prs_mem (by decide) (by decide)) (by decide) (by decide) wX2_arrangeFrom_f13 (Or.inl rfl) tyX2 tyX2_ok nmX2 rfl (by decide) rfl dX2_arrangeFrom_2 (j_bs (fun S_1 => ?_))
  refine j_aload_n 5 0 dX2_arrangeFrom_5 rfl rfl ?_
  refine j_aload_n 6 0 dX2_arrangeFrom_6 rfl rfl ?_
  refine j_getr (c2 := 0) (n2 := 0) 7 0 nX2_arrangeFrom_X2 rfl (by decide) (prs_mem (by decide) (by decide)) (by decide) (by decide) wX2_arrangeFrom_f17 (Or.inr wX2_arrangeFrom_s17) rfl rfl rfl dX2_arrangeFrom_7 ?_
  refine j_callV_pi 10 rfl (by decide) (prs_mem (by decide) (by decide))  [] [.ref (ad 2 0)] gX2_arrangeFrom_X0_everyOne rfl eX0_everyOne ⟨Nat.le_of_ble_eq_true rfl, Nat.le_of_ble_eq_true rfl⟩ rfl rfl (Nat.le_of_ble_eq_true rfl) dX2_arrangeFrom_10 (kX0_everyOne S_1) (fun b_2 γ => ?_)
  refine j_callU_ei 13 rfl (by decide) (prs_mem (by decide) (by decide))  [.int b_2] [] (n := 1) (owner := "TwoTongues$Order") (x := ⟨"TwoTongues$Hearings", "arrange", "(I)I"⟩) gX2_arrangeFrom_X5_arrange_u27X2 rfl rfl (by decide +kernel) ⟨Nat.le_of_ble_eq_true rfl, Nat.le_of_ble_eq_true rfl⟩ rfl rfl (Nat.le_of_ble_eq_true rfl) dX2_arrangeFrom_13 (kX5_arrange_h F S_1 b_2) (fun b_3 γ => ?_)
  exact j_iret 16 rfl dX2_arrangeFrom_16
set_option maxRecDepth 100000 in
set_option maxHeartbeats 4000000 in
theorem kX2_arrangeFrom {ad : Nat → Nat → Nat} (F : Nat) (S : St) (p1 : Int32) : ∀ b, fX2_arrangeFrom F S p1 = some b → ∀ l dC dI cy, CT l dC dI cy ad yX2_arrangeFrom wsX2_arrangeFrom 5 113 [.ref (ad 2 0), .int p1] S (some (.int b.1)) b.2 :=
  fun b hb l dC dI cy => ct_of (l := l) (dC := dC) (dI := dI) (cy := cy) outei (by decide) rfl (Nat.le_of_ble_eq_true rfl) rfl (fun X γ => tX2_arrangeFrom X γ F S p1) b hb
-- X3_isBook
theorem nX3_isBook_X3 : ∀ w ∈ u_ws RX3 TX3 6, w ∈ wsX3_isBook := by decide +kernel
theorem wX3_isBook_f9 : Cond.fieldLink RX3 9 "TwoTongues$Item" "letter" "I" ∈ wsX3_isBook := by decide +kernel
set_option maxRecDepth 100000 in
set_option maxHeartbeats 4000000 in
theorem tX3_isBook {ad : Nat → Nat → Nat} (X : Ctx) (γ : Nat → Nat) (S : St) (t : Nat) : JJ X ad γ (RQm X ad 0 0 (outpi S)) (fcm (outpi S)) 0 0 cX3_isBook 1 RX3 wsX3_isBook (some .boolean) (fX3_isBook S t) S 0 [(0, .ref (ad 3 t))] [] := by
  unfold fX3_isBook
  refine j_gd (fun ht => ?_)
  have ht := of_decide_eq_true ht
  refine j_aload_n 0 0 dX3_isBook_0 rfl rfl ?_
  refine j_geti 1 0 nX3_isBook_X3 rfl (by decide) (prs_mem (by decide) ht) (by decide) (by decide) wX3_isBook_f9 (Or.inl rfl) rfl dX3_isBook_1 ?_
  refine j_bipush (v := 119) 4 dX3_isBook_4 (by decide) ?_
  refine j_icmp_ne 6 13 dX3_isBook_6 (by decide) (fun _ => ?_) (fun _ => ?_)
  · refine j_iconst (v := 0) 13 dX3_isBook_13 (by decide) ?_
    exact j_zret 14 (by decide) rfl dX3_isBook_14
  · refine j_iconst (v := 1) 9 dX3_isBook_9 (by decide) ?_
    refine j_goto 10 14 dX3_isBook_10 (by decide) ?_
    exact j_zret 14 (by decide) rfl dX3_isBook_14
set_option maxRecDepth 100000 in
set_option maxHeartbeats 4000000 in
theorem kX3_isBook {ad : Nat → Nat → Nat} (S : St) (t : Nat) : ∀ b, fX3_isBook S t = some b → ∀ l dC dI cy, CT l dC dI cy ad yX3_isBook wsX3_isBook 0 0 [.ref (ad 3 t)] S (some (.int b)) S :=
  fun b hb l dC dI cy => ct_of (l := l) (dC := dC) (dI := dI) (cy := cy) (outpi S) (by decide) rfl (Nat.le_of_ble_eq_true rfl) rfl (fun X γ => tX3_isBook X γ S t) b hb
-- X3_fill
theorem nX3_fill_X3 : ∀ w ∈ u_ws RX3 TX3 6, w ∈ wsX3_fill := by decide +kernel
theorem wX3_fill_f9 : Cond.fieldLink RX3 9 "TwoTongues$Item" "letter" "I" ∈ wsX3_fill := by decide +kernel
theorem wX3_fill_f15 : Cond.fieldLink RX3 15 "TwoTongues$Item" "word" "I" ∈ wsX3_fill := by decide +kernel
theorem wX3_fill_f22 : Cond.fieldLink RX3 22 "TwoTongues$Item" "thing" "I" ∈ wsX3_fill := by decide +kernel
theorem wX3_fill_f25 : Cond.fieldLink RX3 25 "TwoTongues$Item" "from" "I" ∈ wsX3_fill := by decide +kernel
theorem wX3_fill_f28 : Cond.fieldLink RX3 28 "TwoTongues$Item" "to" "I" ∈ wsX3_fill := by decide +kernel
theorem wX3_fill_f31 : Cond.fieldLink RX3 31 "TwoTongues$Item" "set" "I" ∈ wsX3_fill := by decide +kernel
set_option maxRecDepth 100000 in
set_option maxHeartbeats 4000000 in
theorem tX3_fill {ad : Nat → Nat → Nat} (X : Ctx) (γ : Nat → Nat) (S : St) (t : Nat) (p1 : Int32) (m2 : Nat) : JJ X ad γ (RQm X ad 1 20 outev) (fcm outev) 1 20 cX3_fill 3 RX3 wsX3_fill none (fX3_fill S t p1 m2) S 0 [(0, .ref (ad 3 t)), (1, .int p1), (2, .ref (ad 47 m2))] [] := by
  unfold fX3_fill
  refine j_gd (fun ht => ?_)
  have ht := of_decide_eq_true ht
  refine j_gd (fun hm2 => ?_)
  have hm2 := of_decide_eq_true hm2
  refine j_aload_n 0 0 dX3_fill_0 rfl rfl ?_
  refine j_iload_n 1 1 dX3_fill_1 rfl rfl ?_
  refine j_puti 2 0 nX3_fill_X3 rfl (by decide) (prs_mem (by decide) ht) (by decide) (by decide) wX3_fill_f9 (Or.inl rfl) tyX3 tyX3_ok nmX3 rfl (by decide) rfl dX3_fill_2 (j_bs (fun S_1 => ?_))
  refine j_aload_n 5 0 dX3_fill_5 rfl rfl ?_
  refine j_aload_n 6 2 dX3_fill_6 rfl rfl ?_
  refine j_iconst (v := 0) 7 dX3_fill_7 (by decide) ?_
  refine j_iald (c := 47) (n := m2) (L := 5) 8 (prs_mem (by decide) hm2) (by decide) rfl rfl rfl dX3_fill_8 ?_
  refine j_puti 9 1 nX3_fill_X3 rfl (by decide) (prs_mem (by decide) ht) (by decide) (by decide) wX3_fill_f15 (Or.inl rfl) tyX3 tyX3_ok nmX3 rfl (by decide) rfl dX3_fill_9 (j_bs (fun S_2 => ?_))
  refine j_aload_n 12 0 dX3_fill_12 rfl rfl ?_
  refine j_callV_pi 13 rfl (by decide) (prs_mem (by decide) ht)  [] [] gX3_fill_X3_isBook rfl eX3_isBook ⟨Nat.le_of_ble_eq_true rfl, Nat.le_of_ble_eq_true rfl⟩ rfl rfl (Nat.le_of_ble_eq_true rfl) dX3_fill_13 (kX3_isBook S_2 t) (fun b_3 γ => ?_)
  refine j_if_eq 16 48 dX3_fill_16 (by decide) (fun _ => ?_) (fun _ => ?_)
  · refine j_aload_n 48 0 dX3_fill_48 rfl rfl ?_
    refine j_aload_n 49 2 dX3_fill_49 rfl rfl ?_
    refine j_iconst (v := 1) 50 dX3_fill_50 (by decide) ?_
    refine j_iald (c := 47) (n := m2) (L := 5) 51 (prs_mem (by decide) hm2) (by decide) rfl rfl rfl dX3_fill_51 ?_
    refine j_puti 52 2 nX3_fill_X3 rfl (by decide) (prs_mem (by decide) ht) (by decide) (by decide) wX3_fill_f22 (Or.inl rfl) tyX3 tyX3_ok nmX3 rfl (by decide) rfl dX3_fill_52 (j_bs (fun S_4 => ?_))
    refine j_aload_n 55 0 dX3_fill_55 rfl rfl ?_
    refine j_aload_n 56 2 dX3_fill_56 rfl rfl ?_
    refine j_iconst (v := 2) 57 dX3_fill_57 (by decide) ?_
    refine j_iald (c := 47) (n := m2) (L := 5) 58 (prs_mem (by decide) hm2) (by decide) rfl rfl rfl dX3_fill_58 ?_
    refine j_puti 59 3 nX3_fill_X3 rfl (by decide) (prs_mem (by decide) ht) (by decide) (by decide) wX3_fill_f25 (Or.inl rfl) tyX3 tyX3_ok nmX3 rfl (by decide) rfl dX3_fill_59 (j_bs (fun S_5 => ?_))
    refine j_aload_n 62 0 dX3_fill_62 rfl rfl ?_
    refine j_aload_n 63 2 dX3_fill_63 rfl rfl ?_
    refine j_iconst (v := 3) 64 dX3_fill_64 (by decide) ?_
    refine j_iald (c := 47) (n := m2) (L := 5) 65 (prs_mem (by decide) hm2) (by decide) rfl rfl rfl dX3_fill_65 ?_
    refine j_puti 66 4 nX3_fill_X3 rfl (by decide) (prs_mem (by decide) ht) (by decide) (by decide) wX3_fill_f28 (Or.inl rfl) tyX3 tyX3_ok nmX3 rfl (by decide) rfl dX3_fill_66 (j_bs (fun S_6 => ?_))
    refine j_aload_n 69 0 dX3_fill_69 rfl rfl ?_
    refine j_aload_n 70 2 dX3_fill_70 rfl rfl ?_
    refine j_iconst (v := 4) 71 dX3_fill_71 (by decide) ?_
    refine j_iald (c := 47) (n := m2) (L := 5) 72 (prs_mem (by decide) hm2) (by decide) rfl rfl rfl dX3_fill_72 ?_
    refine j_puti 73 5 nX3_fill_X3 rfl (by decide) (prs_mem (by decide) ht) (by decide) (by decide) wX3_fill_f31 (Or.inl rfl) tyX3 tyX3_ok nmX3 rfl (by decide) rfl dX3_fill_73 (j_bs (fun S_7 => ?_))
    exact j_vret 76 rfl dX3_fill_76
  · refine j_aload_n 19 0 dX3_fill_19 rfl rfl ?_
    refine j_iconst (v := 0) 20 dX3_fill_20 (by decide) ?_
    refine j_puti 21 2 nX3_fill_X3 rfl (by decide) (prs_mem (by decide) ht) (by decide) (by decide) wX3_fill_f22 (Or.inl rfl) tyX3 tyX3_ok nmX3 rfl (by decide) rfl dX3_fill_21 (j_bs (fun S_8 => ?_))
    refine j_aload_n 24 0 dX3_fill_24 rfl rfl ?_
    refine j_aload_n 25 2 dX3_fill_25 rfl rfl ?_
    refine j_iconst (v := 1) 26 dX3_fill_26 (by decide) ?_
    refine j_iald (c := 47) (n := m2) (L := 5) 27 (prs_mem (by decide) hm2) (by decide) rfl rfl rfl dX3_fill_27 ?_
    refine j_puti 28 3 nX3_fill_X3 rfl (by decide) (prs_mem (by decide) ht) (by decide) (by decide) wX3_fill_f25 (Or.inl rfl) tyX3 tyX3_ok nmX3 rfl (by decide) rfl dX3_fill_28 (j_bs (fun S_9 => ?_))
    refine j_aload_n 31 0 dX3_fill_31 rfl rfl ?_
    refine j_sipush (v := 200) 32 dX3_fill_32 (by decide) ?_
    refine j_puti 35 4 nX3_fill_X3 rfl (by decide) (prs_mem (by decide) ht) (by decide) (by decide) wX3_fill_f28 (Or.inl rfl) tyX3 tyX3_ok nmX3 rfl (by decide) rfl dX3_fill_35 (j_bs (fun S_10 => ?_))
    refine j_aload_n 38 0 dX3_fill_38 rfl rfl ?_
    refine j_aload_n 39 2 dX3_fill_39 rfl rfl ?_
    refine j_iconst (v := 2) 40 dX3_fill_40 (by decide) ?_
    refine j_iald (c := 47) (n := m2) (L := 5) 41 (prs_mem (by decide) hm2) (by decide) rfl rfl rfl dX3_fill_41 ?_
    refine j_puti 42 5 nX3_fill_X3 rfl (by decide) (prs_mem (by decide) ht) (by decide) (by decide) wX3_fill_f31 (Or.inl rfl) tyX3 tyX3_ok nmX3 rfl (by decide) rfl dX3_fill_42 (j_bs (fun S_11 => ?_))
    refine j_goto 45 76 dX3_fill_45 (by decide) ?_
    exact j_vret 76 rfl dX3_fill_76
set_option maxRecDepth 100000 in
set_option maxHeartbeats 4000000 in
theorem kX3_fill {ad : Nat → Nat → Nat} (S : St) (t : Nat) (p1 : Int32) (m2 : Nat) : ∀ b, fX3_fill S t p1 m2 = some b → ∀ l dC dI cy, CT l dC dI cy ad yX3_fill wsX3_fill 1 20 [.ref (ad 3 t), .int p1, .ref (ad 47 m2)] S (none) b :=
  fun b hb l dC dI cy => ct_of (l := l) (dC := dC) (dI := dI) (cy := cy) outev (by decide) rfl (Nat.le_of_ble_eq_true rfl) rfl (fun X γ => tX3_fill X γ S t p1 m2) b hb
-- X11_within
set_option maxRecDepth 100000 in
set_option maxHeartbeats 4000000 in
theorem tX11_within {ad : Nat → Nat → Nat} (X : Ctx) (γ : Nat → Nat) (S : St) (p0 : Int32) (p1 : Int32) (p2 : Int32) : JJ X ad γ (RQm X ad 0 0 (outpi S)) (fcm (outpi S)) 0 0 cX11_within 3 RX11 wsX11_within (some .boolean) (fX11_within S p0 p1 p2) S 0 [(0, .int p0), (1, .int p1), (2, .int p2)] [] := by
  unfold fX11_within
  refine j_iload_n 0 0 dX11_within_0 rfl rfl ?_
  refine j_iload_n 1 1 dX11_within_1 rfl rfl ?_
  refine j_icmp_lt 2 14 dX11_within_2 (by decide) (fun _ => ?_) (fun _ => ?_)
  · refine j_iconst (v := 0) 14 dX11_within_14 (by decide) ?_
    exact j_zret 15 (by decide) rfl dX11_within_15
  · refine j_iload_n 5 0 dX11_within_5 rfl rfl ?_
    refine j_iload_n 6 2 dX11_within_6 rfl rfl ?_
    refine j_icmp_gt 7 14 dX11_within_7 (by decide) (fun _ => ?_) (fun _ => ?_)
    · refine j_iconst (v := 0) 14 dX11_within_14 (by decide) ?_
      exact j_zret 15 (by decide) rfl dX11_within_15
    · refine j_iconst (v := 1) 10 dX11_within_10 (by decide) ?_
      refine j_goto 11 15 dX11_within_11 (by decide) ?_
      exact j_zret 15 (by decide) rfl dX11_within_15
set_option maxRecDepth 100000 in
set_option maxHeartbeats 4000000 in
theorem kX11_within {ad : Nat → Nat → Nat} (S : St) (p0 : Int32) (p1 : Int32) (p2 : Int32) : ∀ b, fX11_within S p0 p1 p2 = some b → ∀ l dC dI cy, CT l dC dI cy ad yX11_within wsX11_within 0 0 [.int p0, .int p1, .int p2] S (some (.int b)) S :=
  fun b hb l dC dI cy => ct_of (l := l) (dC := dC) (dI := dI) (cy := cy) (outpi S) (by decide) rfl (Nat.le_of_ble_eq_true rfl) rfl (fun X γ => tX11_within X γ S p0 p1 p2) b hb
-- X11_isWord
set_option maxRecDepth 100000 in
set_option maxHeartbeats 4000000 in
theorem tX11_isWord {ad : Nat → Nat → Nat} (X : Ctx) (γ : Nat → Nat) (S : St) (p0 : Int32) : JJ X ad γ (RQm X ad 1 22 (outpi S)) (fcm (outpi S)) 1 22 cX11_isWord 1 RX11 wsX11_isWord (some .boolean) (fX11_isWord S p0) S 0 [(0, .int p0)] [] := by
  unfold fX11_isWord
  refine j_iload_n 0 0 dX11_isWord_0 rfl rfl ?_
  refine j_iconst (v := 0) 1 dX11_isWord_1 (by decide) ?_
  refine j_bipush (v := 7) 2 dX11_isWord_2 (by decide) ?_
  refine j_callS_pi 4  [.int p0, .int 0, .int 7] [] gX11_isWord_X11_within rfl eX11_within ⟨Nat.le_of_ble_eq_true rfl, Nat.le_of_ble_eq_true rfl⟩ rfl rfl (Nat.le_of_ble_eq_true rfl) dX11_isWord_4 (kX11_within S p0 0 7) (fun b_1 γ => ?_)
  refine j_gd (fun hz => ?_)
  exact j_zret 7 (isB_nar hz) rfl dX11_isWord_7
set_option maxRecDepth 100000 in
set_option maxHeartbeats 4000000 in
theorem kX11_isWord {ad : Nat → Nat → Nat} (S : St) (p0 : Int32) : ∀ b, fX11_isWord S p0 = some b → ∀ l dC dI cy, CT l dC dI cy ad yX11_isWord wsX11_isWord 1 22 [.int p0] S (some (.int b)) S :=
  fun b hb l dC dI cy => ct_of (l := l) (dC := dC) (dI := dI) (cy := cy) (outpi S) (by decide) rfl (Nat.le_of_ble_eq_true rfl) rfl (fun X γ => tX11_isWord X γ S p0) b hb
-- X11_isThing
set_option maxRecDepth 100000 in
set_option maxHeartbeats 4000000 in
theorem tX11_isThing {ad : Nat → Nat → Nat} (X : Ctx) (γ : Nat → Nat) (S : St) (p0 : Int32) : JJ X ad γ (RQm X ad 1 22 (outpi S)) (fcm (outpi S)) 1 22 cX11_isThing 1 RX11 wsX11_isThing (some .boolean) (fX11_isThing S p0) S 0 [(0, .int p0)] [] := by
  unfold fX11_isThing
  refine j_iload_n 0 0 dX11_isThing_0 rfl rfl ?_
  refine j_iconst (v := 0) 1 dX11_isThing_1 (by decide) ?_
  refine j_iconst (v := 5) 2 dX11_isThing_2 (by decide) ?_
  refine j_callS_pi 3  [.int p0, .int 0, .int 5] [] gX11_isThing_X11_within rfl eX11_within ⟨Nat.le_of_ble_eq_true rfl, Nat.le_of_ble_eq_true rfl⟩ rfl rfl (Nat.le_of_ble_eq_true rfl) dX11_isThing_3 (kX11_within S p0 0 5) (fun b_1 γ => ?_)
  refine j_gd (fun hz => ?_)
  exact j_zret 6 (isB_nar hz) rfl dX11_isThing_6
set_option maxRecDepth 100000 in
set_option maxHeartbeats 4000000 in
theorem kX11_isThing {ad : Nat → Nat → Nat} (S : St) (p0 : Int32) : ∀ b, fX11_isThing S p0 = some b → ∀ l dC dI cy, CT l dC dI cy ad yX11_isThing wsX11_isThing 1 22 [.int p0] S (some (.int b)) S :=
  fun b hb l dC dI cy => ct_of (l := l) (dC := dC) (dI := dI) (cy := cy) (outpi S) (by decide) rfl (Nat.le_of_ble_eq_true rfl) rfl (fun X γ => tX11_isThing X γ S p0) b hb
-- X11_isYear
set_option maxRecDepth 100000 in
set_option maxHeartbeats 4000000 in
theorem tX11_isYear {ad : Nat → Nat → Nat} (X : Ctx) (γ : Nat → Nat) (S : St) (p0 : Int32) : JJ X ad γ (RQm X ad 1 22 (outpi S)) (fcm (outpi S)) 1 22 cX11_isYear 1 RX11 wsX11_isYear (some .boolean) (fX11_isYear S p0) S 0 [(0, .int p0)] [] := by
  unfold fX11_isYear
  refine j_iload_n 0 0 dX11_isYear_0 rfl rfl ?_
  refine j_iconst (v := 0) 1 dX11_isYear_1 (by decide) ?_
  refine j_sipush (v := 200) 2 dX11_isYear_2 (by decide) ?_
  refine j_callS_pi 5  [.int p0, .int 0, .int 200] [] gX11_isYear_X11_within rfl eX11_within ⟨Nat.le_of_ble_eq_true rfl, Nat.le_of_ble_eq_true rfl⟩ rfl rfl (Nat.le_of_ble_eq_true rfl) dX11_isYear_5 (kX11_within S p0 0 200) (fun b_1 γ => ?_)
  refine j_gd (fun hz => ?_)
  exact j_zret 8 (isB_nar hz) rfl dX11_isYear_8
set_option maxRecDepth 100000 in
set_option maxHeartbeats 4000000 in
theorem kX11_isYear {ad : Nat → Nat → Nat} (S : St) (p0 : Int32) : ∀ b, fX11_isYear S p0 = some b → ∀ l dC dI cy, CT l dC dI cy ad yX11_isYear wsX11_isYear 1 22 [.int p0] S (some (.int b)) S :=
  fun b hb l dC dI cy => ct_of (l := l) (dC := dC) (dI := dI) (cy := cy) (outpi S) (by decide) rfl (Nat.le_of_ble_eq_true rfl) rfl (fun X γ => tX11_isYear X γ S p0) b hb
-- X3_isInBounds
theorem nX3_isInBounds_X3 : ∀ w ∈ u_ws RX3 TX3 6, w ∈ wsX3_isInBounds := by decide +kernel
theorem wX3_isInBounds_f15 : Cond.fieldLink RX3 15 "TwoTongues$Item" "word" "I" ∈ wsX3_isInBounds := by decide +kernel
theorem wX3_isInBounds_stX11_isWord : Cond.static yX11_isWord ∈ wsX3_isInBounds := by decide +kernel
theorem wX3_isInBounds_inX11_isWord : Cond.initialized yX11_isWord.cls ∈ wsX3_isInBounds := by decide +kernel
theorem wX3_isInBounds_f22 : Cond.fieldLink RX3 22 "TwoTongues$Item" "thing" "I" ∈ wsX3_isInBounds := by decide +kernel
theorem wX3_isInBounds_stX11_isThing : Cond.static yX11_isThing ∈ wsX3_isInBounds := by decide +kernel
theorem wX3_isInBounds_inX11_isThing : Cond.initialized yX11_isThing.cls ∈ wsX3_isInBounds := by decide +kernel
theorem wX3_isInBounds_f28 : Cond.fieldLink RX3 28 "TwoTongues$Item" "to" "I" ∈ wsX3_isInBounds := by decide +kernel
theorem wX3_isInBounds_stX11_isYear : Cond.static yX11_isYear ∈ wsX3_isInBounds := by decide +kernel
theorem wX3_isInBounds_inX11_isYear : Cond.initialized yX11_isYear.cls ∈ wsX3_isInBounds := by decide +kernel
theorem wX3_isInBounds_f25 : Cond.fieldLink RX3 25 "TwoTongues$Item" "from" "I" ∈ wsX3_isInBounds := by decide +kernel
theorem wX3_isInBounds_f31 : Cond.fieldLink RX3 31 "TwoTongues$Item" "set" "I" ∈ wsX3_isInBounds := by decide +kernel
set_option maxRecDepth 100000 in
set_option maxHeartbeats 4000000 in
theorem tX3_isInBounds_j15 {ad : Nat → Nat → Nat} (X : Ctx) (γ : Nat → Nat) (S : St) (t : Nat) (s0 : Int32) (ht : t < 70)  : JJ X ad γ (RQm X ad 2 42 (outpi S)) (fcm (outpi S)) 2 42 cX3_isInBounds 2 RX3 wsX3_isInBounds (some .boolean) (fX3_isInBounds_j15 S t s0) S 15 [(0, .ref (ad 3 t))] [.int s0] := by
  unfold fX3_isInBounds_j15
  refine j_istore_n (lv2 := [(1, .int s0), (0, .ref (ad 3 t))]) 15 dX3_isInBounds_15 rfl (by decide) rfl ?_
  refine j_aload_n 16 1 dX3_isInBounds_16 rfl rfl ?_
  refine j_geti 17 1 nX3_isInBounds_X3 rfl (by decide) (prs_mem (by decide) ht) (by decide) (by decide) wX3_isInBounds_f15 (Or.inl rfl) rfl dX3_isInBounds_17 ?_
  refine j_callSN_pi 20  [.int (gI S 3 t 1)] [] (host := "TwoTongues") gX3_isInBounds_X11_isWord_n34 rfl (by decide +kernel) wX3_isInBounds_stX11_isWord wX3_isInBounds_inX11_isWord eX11_isWord ⟨Nat.le_of_ble_eq_true rfl, Nat.le_of_ble_eq_true rfl⟩ rfl rfl (Nat.le_of_ble_eq_true rfl) dX3_isInBounds_20 (kX11_isWord S (gI S 3 t 1)) (fun b_2 γ => ?_)
  refine j_if_eq 23 69 dX3_isInBounds_23 (by decide) (fun _ => ?_) (fun _ => ?_)
  · refine j_iconst (v := 0) 69 dX3_isInBounds_69 (by decide) ?_
    exact j_zret 70 (by decide) rfl dX3_isInBounds_70
  · refine j_aload_n 26 1 dX3_isInBounds_26 rfl rfl ?_
    refine j_geti 27 2 nX3_isInBounds_X3 rfl (by decide) (prs_mem (by decide) ht) (by decide) (by decide) wX3_isInBounds_f22 (Or.inl rfl) rfl dX3_isInBounds_27 ?_
    refine j_callSN_pi 30  [.int (gI S 3 t 2)] [] (host := "TwoTongues") gX3_isInBounds_X11_isThing_n38 rfl (by decide +kernel) wX3_isInBounds_stX11_isThing wX3_isInBounds_inX11_isThing eX11_isThing ⟨Nat.le_of_ble_eq_true rfl, Nat.le_of_ble_eq_true rfl⟩ rfl rfl (Nat.le_of_ble_eq_true rfl) dX3_isInBounds_30 (kX11_isThing S (gI S 3 t 2)) (fun b_3 γ => ?_)
    refine j_if_eq 33 69 dX3_isInBounds_33 (by decide) (fun _ => ?_) (fun _ => ?_)
    · refine j_iconst (v := 0) 69 dX3_isInBounds_69 (by decide) ?_
      exact j_zret 70 (by decide) rfl dX3_isInBounds_70
    · refine j_aload_n 36 1 dX3_isInBounds_36 rfl rfl ?_
      refine j_geti 37 4 nX3_isInBounds_X3 rfl (by decide) (prs_mem (by decide) ht) (by decide) (by decide) wX3_isInBounds_f28 (Or.inl rfl) rfl dX3_isInBounds_37 ?_
      refine j_callSN_pi 40  [.int (gI S 3 t 4)] [] (host := "TwoTongues") gX3_isInBounds_X11_isYear_n41 rfl (by decide +kernel) wX3_isInBounds_stX11_isYear wX3_isInBounds_inX11_isYear eX11_isYear ⟨Nat.le_of_ble_eq_true rfl, Nat.le_of_ble_eq_true rfl⟩ rfl rfl (Nat.le_of_ble_eq_true rfl) dX3_isInBounds_40 (kX11_isYear S (gI S 3 t 4)) (fun b_4 γ => ?_)
      refine j_if_eq 43 69 dX3_isInBounds_43 (by decide) (fun _ => ?_) (fun _ => ?_)
      · refine j_iconst (v := 0) 69 dX3_isInBounds_69 (by decide) ?_
        exact j_zret 70 (by decide) rfl dX3_isInBounds_70
      · refine j_aload_n 46 1 dX3_isInBounds_46 rfl rfl ?_
        refine j_geti 47 3 nX3_isInBounds_X3 rfl (by decide) (prs_mem (by decide) ht) (by decide) (by decide) wX3_isInBounds_f25 (Or.inl rfl) rfl dX3_isInBounds_47 ?_
        refine j_aload_n 50 1 dX3_isInBounds_50 rfl rfl ?_
        refine j_geti 51 4 nX3_isInBounds_X3 rfl (by decide) (prs_mem (by decide) ht) (by decide) (by decide) wX3_isInBounds_f28 (Or.inl rfl) rfl dX3_isInBounds_51 ?_
        refine j_icmp_gt 54 69 dX3_isInBounds_54 (by decide) (fun _ => ?_) (fun _ => ?_)
        · refine j_iconst (v := 0) 69 dX3_isInBounds_69 (by decide) ?_
          exact j_zret 70 (by decide) rfl dX3_isInBounds_70
        · refine j_aload_n 57 1 dX3_isInBounds_57 rfl rfl ?_
          refine j_geti 58 5 nX3_isInBounds_X3 rfl (by decide) (prs_mem (by decide) ht) (by decide) (by decide) wX3_isInBounds_f31 (Or.inl rfl) rfl dX3_isInBounds_58 ?_
          refine j_iload_n 61 0 dX3_isInBounds_61 rfl rfl ?_
          refine j_icmp_ge 62 69 dX3_isInBounds_62 (by decide) (fun _ => ?_) (fun _ => ?_)
          · refine j_iconst (v := 0) 69 dX3_isInBounds_69 (by decide) ?_
            exact j_zret 70 (by decide) rfl dX3_isInBounds_70
          · refine j_iconst (v := 1) 65 dX3_isInBounds_65 (by decide) ?_
            refine j_goto 66 70 dX3_isInBounds_66 (by decide) ?_
            exact j_zret 70 (by decide) rfl dX3_isInBounds_70
set_option maxRecDepth 100000 in
set_option maxHeartbeats 4000000 in
theorem tX3_isInBounds {ad : Nat → Nat → Nat} (X : Ctx) (γ : Nat → Nat) (S : St) (t : Nat) : JJ X ad γ (RQm X ad 2 42 (outpi S)) (fcm (outpi S)) 2 42 cX3_isInBounds 2 RX3 wsX3_isInBounds (some .boolean) (fX3_isInBounds S t) S 0 [(0, .ref (ad 3 t))] [] := by
  unfold fX3_isInBounds
  refine j_gd (fun ht => ?_)
  have ht := of_decide_eq_true ht
  refine j_aload_n 0 0 dX3_isInBounds_0 rfl rfl ?_
  refine j_callV_pi 1 rfl (by decide) (prs_mem (by decide) ht)  [] [] gX3_isInBounds_X3_isBook rfl eX3_isBook ⟨Nat.le_of_ble_eq_true rfl, Nat.le_of_ble_eq_true rfl⟩ rfl rfl (Nat.le_of_ble_eq_true rfl) dX3_isInBounds_1 (kX3_isBook S t) (fun b_1 γ => ?_)
  refine j_if_eq 4 12 dX3_isInBounds_4 (by decide) (fun _ => ?_) (fun _ => ?_)
  · refine j_sipush (v := 256) 12 dX3_isInBounds_12 (by decide) ?_
    exact tX3_isInBounds_j15 X _ S t 256 ht
  · refine j_bipush (v := 64) 7 dX3_isInBounds_7 (by decide) ?_
    refine j_goto 9 15 dX3_isInBounds_9 (by decide) ?_
    exact tX3_isInBounds_j15 X _ S t 64 ht
set_option maxRecDepth 100000 in
set_option maxHeartbeats 4000000 in
theorem kX3_isInBounds {ad : Nat → Nat → Nat} (S : St) (t : Nat) : ∀ b, fX3_isInBounds S t = some b → ∀ l dC dI cy, CT l dC dI cy ad yX3_isInBounds wsX3_isInBounds 2 42 [.ref (ad 3 t)] S (some (.int b)) S :=
  fun b hb l dC dI cy => ct_of (l := l) (dC := dC) (dI := dI) (cy := cy) (outpi S) (by decide) rfl (Nat.le_of_ble_eq_true rfl) rfl (fun X γ => tX3_isInBounds X γ S t) b hb
-- X3_speaksOf
theorem nX3_speaksOf_X3 : ∀ w ∈ u_ws RX3 TX3 6, w ∈ wsX3_speaksOf := by decide +kernel
theorem wX3_speaksOf_f22 : Cond.fieldLink RX3 22 "TwoTongues$Item" "thing" "I" ∈ wsX3_speaksOf := by decide +kernel
theorem wX3_speaksOf_f25 : Cond.fieldLink RX3 25 "TwoTongues$Item" "from" "I" ∈ wsX3_speaksOf := by decide +kernel
theorem wX3_speaksOf_f28 : Cond.fieldLink RX3 28 "TwoTongues$Item" "to" "I" ∈ wsX3_speaksOf := by decide +kernel
theorem wX3_speaksOf_stX11_within : Cond.static yX11_within ∈ wsX3_speaksOf := by decide +kernel
theorem wX3_speaksOf_inX11_within : Cond.initialized yX11_within.cls ∈ wsX3_speaksOf := by decide +kernel
set_option maxRecDepth 100000 in
set_option maxHeartbeats 4000000 in
theorem tX3_speaksOf {ad : Nat → Nat → Nat} (X : Ctx) (γ : Nat → Nat) (S : St) (t : Nat) (p1 : Int32) (p2 : Int32) : JJ X ad γ (RQm X ad 1 22 (outpi S)) (fcm (outpi S)) 1 22 cX3_speaksOf 3 RX3 wsX3_speaksOf (some .boolean) (fX3_speaksOf S t p1 p2) S 0 [(0, .ref (ad 3 t)), (1, .int p1), (2, .int p2)] [] := by
  unfold fX3_speaksOf
  refine j_gd (fun ht => ?_)
  have ht := of_decide_eq_true ht
  refine j_aload_n 0 0 dX3_speaksOf_0 rfl rfl ?_
  refine j_callV_pi 1 rfl (by decide) (prs_mem (by decide) ht)  [] [] gX3_speaksOf_X3_isBook rfl eX3_isBook ⟨Nat.le_of_ble_eq_true rfl, Nat.le_of_ble_eq_true rfl⟩ rfl rfl (Nat.le_of_ble_eq_true rfl) dX3_speaksOf_1 (kX3_isBook S t) (fun b_1 γ => ?_)
  refine j_if_ne 4 34 dX3_speaksOf_4 (by decide) (fun _ => ?_) (fun _ => ?_)
  · refine j_iconst (v := 0) 34 dX3_speaksOf_34 (by decide) ?_
    exact j_zret 35 (by decide) rfl dX3_speaksOf_35
  · refine j_aload_n 7 0 dX3_speaksOf_7 rfl rfl ?_
    refine j_geti 8 2 nX3_speaksOf_X3 rfl (by decide) (prs_mem (by decide) ht) (by decide) (by decide) wX3_speaksOf_f22 (Or.inl rfl) rfl dX3_speaksOf_8 ?_
    refine j_iload_n 11 1 dX3_speaksOf_11 rfl rfl ?_
    refine j_icmp_ne 12 34 dX3_speaksOf_12 (by decide) (fun _ => ?_) (fun _ => ?_)
    · refine j_iconst (v := 0) 34 dX3_speaksOf_34 (by decide) ?_
      exact j_zret 35 (by decide) rfl dX3_speaksOf_35
    · refine j_iload_n 15 2 dX3_speaksOf_15 rfl rfl ?_
      refine j_aload_n 16 0 dX3_speaksOf_16 rfl rfl ?_
      refine j_geti 17 3 nX3_speaksOf_X3 rfl (by decide) (prs_mem (by decide) ht) (by decide) (by decide) wX3_speaksOf_f25 (Or.inl rfl) rfl dX3_speaksOf_17 ?_
      refine j_aload_n 20 0 dX3_speaksOf_20 rfl rfl ?_
      refine j_geti 21 4 nX3_speaksOf_X3 rfl (by decide) (prs_mem (by decide) ht) (by decide) (by decide) wX3_speaksOf_f28 (Or.inl rfl) rfl dX3_speaksOf_21 ?_
      refine j_callSN_pi 24  [.int p2, .int (gI S 3 t 3), .int (gI S 3 t 4)] [] (host := "TwoTongues") gX3_speaksOf_X11_within_n44 rfl (by decide +kernel) wX3_speaksOf_stX11_within wX3_speaksOf_inX11_within eX11_within ⟨Nat.le_of_ble_eq_true rfl, Nat.le_of_ble_eq_true rfl⟩ rfl rfl (Nat.le_of_ble_eq_true rfl) dX3_speaksOf_24 (kX11_within S p2 (gI S 3 t 3) (gI S 3 t 4)) (fun b_2 γ => ?_)
      refine j_if_eq 27 34 dX3_speaksOf_27 (by decide) (fun _ => ?_) (fun _ => ?_)
      · refine j_iconst (v := 0) 34 dX3_speaksOf_34 (by decide) ?_
        exact j_zret 35 (by decide) rfl dX3_speaksOf_35
      · refine j_iconst (v := 1) 30 dX3_speaksOf_30 (by decide) ?_
        refine j_goto 31 35 dX3_speaksOf_31 (by decide) ?_
        exact j_zret 35 (by decide) rfl dX3_speaksOf_35
set_option maxRecDepth 100000 in
set_option maxHeartbeats 4000000 in
theorem kX3_speaksOf {ad : Nat → Nat → Nat} (S : St) (t : Nat) (p1 : Int32) (p2 : Int32) : ∀ b, fX3_speaksOf S t p1 p2 = some b → ∀ l dC dI cy, CT l dC dI cy ad yX3_speaksOf wsX3_speaksOf 1 22 [.ref (ad 3 t), .int p1, .int p2] S (some (.int b)) S :=
  fun b hb l dC dI cy => ct_of (l := l) (dC := dC) (dI := dI) (cy := cy) (outpi S) (by decide) rfl (Nat.le_of_ble_eq_true rfl) rfl (fun X γ => tX3_speaksOf X γ S t p1 p2) b hb
-- X4_has
theorem nX4_has_X4 : ∀ w ∈ u_ws RX4 TX4 17, w ∈ wsX4_has := by decide +kernel
theorem wX4_has_f52 : Cond.fieldLink RX4 52 "TwoTongues$Land" "size" "I" ∈ wsX4_has := by decide +kernel
theorem wX4_has_stX11_within : Cond.static yX11_within ∈ wsX4_has := by decide +kernel
theorem wX4_has_inX11_within : Cond.initialized yX11_within.cls ∈ wsX4_has := by decide +kernel
set_option maxRecDepth 100000 in
set_option maxHeartbeats 4000000 in
theorem tX4_has {ad : Nat → Nat → Nat} (X : Ctx) (γ : Nat → Nat) (S : St) (p1 : Int32) : JJ X ad γ (RQm X ad 1 22 (outpi S)) (fcm (outpi S)) 1 22 cX4_has 2 RX4 wsX4_has (some .boolean) (fX4_has S p1) S 0 [(0, .ref (ad 4 0)), (1, .int p1)] [] := by
  unfold fX4_has
  refine j_iload_n 0 1 dX4_has_0 rfl rfl ?_
  refine j_iconst (v := 0) 1 dX4_has_1 (by decide) ?_
  refine j_aload_n 2 0 dX4_has_2 rfl rfl ?_
  refine j_geti 3 3 nX4_has_X4 rfl (by decide) (prs_mem (by decide) (by decide)) (by decide) (by decide) wX4_has_f52 (Or.inl rfl) rfl dX4_has_3 ?_
  refine j_iconst (v := 1) 6 dX4_has_6 (by decide) ?_
  refine j_isub 7 dX4_has_7 ?_
  refine j_callSN_pi 8  [.int p1, .int 0, .int ((gI S 4 0 3) - 1)] [] (host := "TwoTongues") gX4_has_X11_within_n56 rfl (by decide +kernel) wX4_has_stX11_within wX4_has_inX11_within eX11_within ⟨Nat.le_of_ble_eq_true rfl, Nat.le_of_ble_eq_true rfl⟩ rfl rfl (Nat.le_of_ble_eq_true rfl) dX4_has_8 (kX11_within S p1 0 ((gI S 4 0 3) - 1)) (fun b_1 γ => ?_)
  refine j_gd (fun hz => ?_)
  exact j_zret 11 (isB_nar hz) rfl dX4_has_11
set_option maxRecDepth 100000 in
set_option maxHeartbeats 4000000 in
theorem kX4_has {ad : Nat → Nat → Nat} (S : St) (p1 : Int32) : ∀ b, fX4_has S p1 = some b → ∀ l dC dI cy, CT l dC dI cy ad yX4_has wsX4_has 1 22 [.ref (ad 4 0), .int p1] S (some (.int b)) S :=
  fun b hb l dC dI cy => ct_of (l := l) (dC := dC) (dI := dI) (cy := cy) (outpi S) (by decide) rfl (Nat.le_of_ble_eq_true rfl) rfl (fun X γ => tX4_has X γ S p1) b hb
-- X4_addBlock
theorem nX4_addBlock_X4 : ∀ w ∈ u_ws RX4 TX4 17, w ∈ wsX4_addBlock := by decide +kernel
theorem wX4_addBlock_f52 : Cond.fieldLink RX4 52 "TwoTongues$Land" "size" "I" ∈ wsX4_addBlock := by decide +kernel
theorem wX4_addBlock_f9 : Cond.fieldLink RX4 9 "TwoTongues$Land" "worth" "[I" ∈ wsX4_addBlock := by decide +kernel
theorem wX4_addBlock_f18 : Cond.fieldLink RX4 18 "TwoTongues$Land" "sharedFrom" "[I" ∈ wsX4_addBlock := by decide +kernel
set_option maxRecDepth 100000 in
set_option maxHeartbeats 4000000 in
theorem tX4_addBlock {ad : Nat → Nat → Nat} (X : Ctx) (γ : Nat → Nat) (S : St) (p1 : Int32) : JJ X ad γ (RQm X ad 0 0 outei) (fcm outei) 0 0 cX4_addBlock 2 RX4 wsX4_addBlock (some .int) (fX4_addBlock S p1) S 0 [(0, .ref (ad 4 0)), (1, .int p1)] [] := by
  unfold fX4_addBlock
  refine j_aload_n 0 0 dX4_addBlock_0 rfl rfl ?_
  refine j_geti 1 3 nX4_addBlock_X4 rfl (by decide) (prs_mem (by decide) (by decide)) (by decide) (by decide) wX4_addBlock_f52 (Or.inl rfl) rfl dX4_addBlock_1 ?_
  refine j_bipush (v := 12) 4 dX4_addBlock_4 (by decide) ?_
  refine j_icmp_lt 6 12 dX4_addBlock_6 (by decide) (fun _ => ?_) (fun _ => ?_)
  · refine j_aload_n 12 0 dX4_addBlock_12 rfl rfl ?_
    refine j_getr (c2 := 20) (n2 := 0) 13 0 nX4_addBlock_X4 rfl (by decide) (prs_mem (by decide) (by decide)) (by decide) (by decide) wX4_addBlock_f9 (Or.inl rfl) rfl rfl rfl dX4_addBlock_13 ?_
    refine j_aload_n 16 0 dX4_addBlock_16 rfl rfl ?_
    refine j_geti 17 3 nX4_addBlock_X4 rfl (by decide) (prs_mem (by decide) (by decide)) (by decide) (by decide) wX4_addBlock_f52 (Or.inl rfl) rfl dX4_addBlock_17 ?_
    refine j_iload_n 20 1 dX4_addBlock_20 rfl rfl ?_
    refine j_iast (c := 20) (n := 0) (L := 12) 21 (prs_mem (by decide) (by decide)) (by decide) rfl rfl rfl dX4_addBlock_21 (j_bs (fun S_1 => ?_))
    refine j_aload_n 22 0 dX4_addBlock_22 rfl rfl ?_
    refine j_getr (c2 := 22) (n2 := 0) 23 2 nX4_addBlock_X4 rfl (by decide) (prs_mem (by decide) (by decide)) (by decide) (by decide) wX4_addBlock_f18 (Or.inl rfl) rfl rfl rfl dX4_addBlock_23 ?_
    refine j_aload_n 26 0 dX4_addBlock_26 rfl rfl ?_
    refine j_geti 27 3 nX4_addBlock_X4 rfl (by decide) (prs_mem (by decide) (by decide)) (by decide) (by decide) wX4_addBlock_f52 (Or.inl rfl) rfl dX4_addBlock_27 ?_
    refine j_iconst (v := (-1)) 30 dX4_addBlock_30 (by decide) ?_
    refine j_iast (c := 22) (n := 0) (L := 12) 31 (prs_mem (by decide) (by decide)) (by decide) rfl rfl rfl dX4_addBlock_31 (j_bs (fun S_2 => ?_))
    refine j_aload_n 32 0 dX4_addBlock_32 rfl rfl ?_
    refine j_dup 33 dX4_addBlock_33 rfl ?_
    refine j_geti 34 3 nX4_addBlock_X4 rfl (by decide) (prs_mem (by decide) (by decide)) (by decide) (by decide) wX4_addBlock_f52 (Or.inl rfl) rfl dX4_addBlock_34 ?_
    refine j_iconst (v := 1) 37 dX4_addBlock_37 (by decide) ?_
    refine j_iadd 38 dX4_addBlock_38 ?_
    refine j_puti 39 3 nX4_addBlock_X4 rfl (by decide) (prs_mem (by decide) (by decide)) (by decide) (by decide) wX4_addBlock_f52 (Or.inl rfl) tyX4 tyX4_ok nmX4 rfl (by decide) rfl dX4_addBlock_39 (j_bs (fun S_3 => ?_))
    refine j_aload_n 42 0 dX4_addBlock_42 rfl rfl ?_
    refine j_geti 43 3 nX4_addBlock_X4 rfl (by decide) (prs_mem (by decide) (by decide)) (by decide) (by decide) wX4_addBlock_f52 (Or.inl rfl) rfl dX4_addBlock_43 ?_
    refine j_iconst (v := 1) 46 dX4_addBlock_46 (by decide) ?_
    refine j_isub 47 dX4_addBlock_47 ?_
    exact j_iret 48 rfl dX4_addBlock_48
  · refine j_bipush (v := (-3)) 9 dX4_addBlock_9 (by decide) ?_
    exact j_iret 11 rfl dX4_addBlock_11
set_option maxRecDepth 100000 in
set_option maxHeartbeats 4000000 in
theorem kX4_addBlock {ad : Nat → Nat → Nat} (S : St) (p1 : Int32) : ∀ b, fX4_addBlock S p1 = some b → ∀ l dC dI cy, CT l dC dI cy ad yX4_addBlock wsX4_addBlock 0 0 [.ref (ad 4 0), .int p1] S (some (.int b.1)) b.2 :=
  fun b hb l dC dI cy => ct_of (l := l) (dC := dC) (dI := dI) (cy := cy) outei (by decide) rfl (Nat.le_of_ble_eq_true rfl) rfl (fun X γ => tX4_addBlock X γ S p1) b hb
-- X4_addHolding
theorem nX4_addHolding_X4 : ∀ w ∈ u_ws RX4 TX4 17, w ∈ wsX4_addHolding := by decide +kernel
theorem wX4_addHolding_f60 : Cond.fieldLink RX4 60 "TwoTongues$Land" "holdings" "I" ∈ wsX4_addHolding := by decide +kernel
theorem wX4_addHolding_f21 : Cond.fieldLink RX4 21 "TwoTongues$Land" "heldBlock" "[I" ∈ wsX4_addHolding := by decide +kernel
theorem wX4_addHolding_f24 : Cond.fieldLink RX4 24 "TwoTongues$Land" "heldByUse" "[Z" ∈ wsX4_addHolding := by decide +kernel
theorem wX4_addHolding_f28 : Cond.fieldLink RX4 28 "TwoTongues$Land" "holder" "[I" ∈ wsX4_addHolding := by decide +kernel
theorem wX4_addHolding_f31 : Cond.fieldLink RX4 31 "TwoTongues$Land" "heldFrom" "[I" ∈ wsX4_addHolding := by decide +kernel
set_option maxRecDepth 100000 in
set_option maxHeartbeats 4000000 in
theorem tX4_addHolding {ad : Nat → Nat → Nat} (X : Ctx) (γ : Nat → Nat) (S : St) (p1 : Int32) (p2 : Int32) (p3 : Int32) (p4 : Int32) : JJ X ad γ (RQm X ad 0 0 outei) (fcm outei) 0 0 cX4_addHolding 5 RX4 wsX4_addHolding (some .int) (fX4_addHolding S p1 p2 p3 p4) S 0 [(0, .ref (ad 4 0)), (1, .int p1), (2, .int p2), (3, .int p3), (4, .int p4)] [] := by
  unfold fX4_addHolding
  refine j_aload_n 0 0 dX4_addHolding_0 rfl rfl ?_
  refine j_geti 1 8 nX4_addHolding_X4 rfl (by decide) (prs_mem (by decide) (by decide)) (by decide) (by decide) wX4_addHolding_f60 (Or.inl rfl) rfl dX4_addHolding_1 ?_
  refine j_bipush (v := 60) 4 dX4_addHolding_4 (by decide) ?_
  refine j_icmp_lt 6 12 dX4_addHolding_6 (by decide) (fun _ => ?_) (fun _ => ?_)
  · refine j_aload_n 12 0 dX4_addHolding_12 rfl rfl ?_
    refine j_getr (c2 := 23) (n2 := 0) 13 4 nX4_addHolding_X4 rfl (by decide) (prs_mem (by decide) (by decide)) (by decide) (by decide) wX4_addHolding_f21 (Or.inl rfl) rfl rfl rfl dX4_addHolding_13 ?_
    refine j_aload_n 16 0 dX4_addHolding_16 rfl rfl ?_
    refine j_geti 17 8 nX4_addHolding_X4 rfl (by decide) (prs_mem (by decide) (by decide)) (by decide) (by decide) wX4_addHolding_f60 (Or.inl rfl) rfl dX4_addHolding_17 ?_
    refine j_iload_n 20 1 dX4_addHolding_20 rfl rfl ?_
    refine j_iast (c := 23) (n := 0) (L := 60) 21 (prs_mem (by decide) (by decide)) (by decide) rfl rfl rfl dX4_addHolding_21 (j_bs (fun S_1 => ?_))
    refine j_aload_n 22 0 dX4_addHolding_22 rfl rfl ?_
    refine j_getr (c2 := 24) (n2 := 0) 23 5 nX4_addHolding_X4 rfl (by decide) (prs_mem (by decide) (by decide)) (by decide) (by decide) wX4_addHolding_f24 (Or.inl rfl) rfl rfl rfl dX4_addHolding_23 ?_
    refine j_aload_n 26 0 dX4_addHolding_26 rfl rfl ?_
    refine j_geti 27 8 nX4_addHolding_X4 rfl (by decide) (prs_mem (by decide) (by decide)) (by decide) (by decide) wX4_addHolding_f60 (Or.inl rfl) rfl dX4_addHolding_27 ?_
    refine j_iload_n 30 2 dX4_addHolding_30 rfl rfl ?_
    refine j_zast (c := 24) (n := 0) (L := 60) 31 (prs_mem (by decide) (by decide)) (by decide) rfl rfl rfl dX4_addHolding_31 (j_bs (fun S_2 => ?_))
    refine j_aload_n 32 0 dX4_addHolding_32 rfl rfl ?_
    refine j_getr (c2 := 25) (n2 := 0) 33 6 nX4_addHolding_X4 rfl (by decide) (prs_mem (by decide) (by decide)) (by decide) (by decide) wX4_addHolding_f28 (Or.inl rfl) rfl rfl rfl dX4_addHolding_33 ?_
    refine j_aload_n 36 0 dX4_addHolding_36 rfl rfl ?_
    refine j_geti 37 8 nX4_addHolding_X4 rfl (by decide) (prs_mem (by decide) (by decide)) (by decide) (by decide) wX4_addHolding_f60 (Or.inl rfl) rfl dX4_addHolding_37 ?_
    refine j_iload_n 40 3 dX4_addHolding_40 rfl rfl ?_
    refine j_iast (c := 25) (n := 0) (L := 60) 41 (prs_mem (by decide) (by decide)) (by decide) rfl rfl rfl dX4_addHolding_41 (j_bs (fun S_3 => ?_))
    refine j_aload_n 42 0 dX4_addHolding_42 rfl rfl ?_
    refine j_getr (c2 := 26) (n2 := 0) 43 7 nX4_addHolding_X4 rfl (by decide) (prs_mem (by decide) (by decide)) (by decide) (by decide) wX4_addHolding_f31 (Or.inl rfl) rfl rfl rfl dX4_addHolding_43 ?_
    refine j_aload_n 46 0 dX4_addHolding_46 rfl rfl ?_
    refine j_geti 47 8 nX4_addHolding_X4 rfl (by decide) (prs_mem (by decide) (by decide)) (by decide) (by decide) wX4_addHolding_f60 (Or.inl rfl) rfl dX4_addHolding_47 ?_
    refine j_iload 50 4 dX4_addHolding_50 rfl ?_
    refine j_iast (c := 26) (n := 0) (L := 60) 52 (prs_mem (by decide) (by decide)) (by decide) rfl rfl rfl dX4_addHolding_52 (j_bs (fun S_4 => ?_))
    refine j_aload_n 53 0 dX4_addHolding_53 rfl rfl ?_
    refine j_dup 54 dX4_addHolding_54 rfl ?_
    refine j_geti 55 8 nX4_addHolding_X4 rfl (by decide) (prs_mem (by decide) (by decide)) (by decide) (by decide) wX4_addHolding_f60 (Or.inl rfl) rfl dX4_addHolding_55 ?_
    refine j_iconst (v := 1) 58 dX4_addHolding_58 (by decide) ?_
    refine j_iadd 59 dX4_addHolding_59 ?_
    refine j_puti 60 8 nX4_addHolding_X4 rfl (by decide) (prs_mem (by decide) (by decide)) (by decide) (by decide) wX4_addHolding_f60 (Or.inl rfl) tyX4 tyX4_ok nmX4 rfl (by decide) rfl dX4_addHolding_60 (j_bs (fun S_5 => ?_))
    refine j_aload_n 63 0 dX4_addHolding_63 rfl rfl ?_
    refine j_geti 64 8 nX4_addHolding_X4 rfl (by decide) (prs_mem (by decide) (by decide)) (by decide) (by decide) wX4_addHolding_f60 (Or.inl rfl) rfl dX4_addHolding_64 ?_
    exact j_iret 67 rfl dX4_addHolding_67
  · refine j_bipush (v := (-3)) 9 dX4_addHolding_9 (by decide) ?_
    exact j_iret 11 rfl dX4_addHolding_11
set_option maxRecDepth 100000 in
set_option maxHeartbeats 4000000 in
theorem kX4_addHolding {ad : Nat → Nat → Nat} (S : St) (p1 : Int32) (p2 : Int32) (p3 : Int32) (p4 : Int32) : ∀ b, fX4_addHolding S p1 p2 p3 p4 = some b → ∀ l dC dI cy, CT l dC dI cy ad yX4_addHolding wsX4_addHolding 0 0 [.ref (ad 4 0), .int p1, .int p2, .int p3, .int p4] S (some (.int b.1)) b.2 :=
  fun b hb l dC dI cy => ct_of (l := l) (dC := dC) (dI := dI) (cy := cy) outei (by decide) rfl (Nat.le_of_ble_eq_true rfl) rfl (fun X γ => tX4_addHolding X γ S p1 p2 p3 p4) b hb
-- X4_holderIn
theorem nX4_holderIn_X4 : ∀ w ∈ u_ws RX4 TX4 17, w ∈ wsX4_holderIn := by decide +kernel
theorem wX4_holderIn_f60 : Cond.fieldLink RX4 60 "TwoTongues$Land" "holdings" "I" ∈ wsX4_holderIn := by decide +kernel
theorem wX4_holderIn_f21 : Cond.fieldLink RX4 21 "TwoTongues$Land" "heldBlock" "[I" ∈ wsX4_holderIn := by decide +kernel
theorem wX4_holderIn_f31 : Cond.fieldLink RX4 31 "TwoTongues$Land" "heldFrom" "[I" ∈ wsX4_holderIn := by decide +kernel
theorem wX4_holderIn_stX11_within : Cond.static yX11_within ∈ wsX4_holderIn := by decide +kernel
theorem wX4_holderIn_inX11_within : Cond.initialized yX11_within.cls ∈ wsX4_holderIn := by decide +kernel
theorem wX4_holderIn_f28 : Cond.fieldLink RX4 28 "TwoTongues$Land" "holder" "[I" ∈ wsX4_holderIn := by decide +kernel
theorem wX4_holderIn_f24 : Cond.fieldLink RX4 24 "TwoTongues$Land" "heldByUse" "[Z" ∈ wsX4_holderIn := by decide +kernel
set_option maxRecDepth 100000 in
set_option maxHeartbeats 4000000 in
theorem tX4_holderIn_j46 {ad : Nat → Nat → Nat} (X : Ctx) (γ : Nat → Nat) (F : Nat) (S : St) (x1 : Int32) (x2 : Int32) (x3 : Int32) (x5 : Int32) (x6 : Int32) (x7 : Int32) (s0 : Int32) (rec : Int32 → Int32 → Int32 → Option Int32)  (ih : ∀ (γ : Nat → Nat) (x5 : Int32) (x6 : Int32) (x7 : Int32), JJ X ad γ (RQm X ad 1 22 (outpi S)) (fcm (outpi S)) 1 22 cX4_holderIn 9 RX4 wsX4_holderIn (some .int) (rec x5 x6 x7) S 10 [(0, .ref (ad 4 0)), (1, .int x1), (2, .int x2), (3, .int x3), (5, .int x5), (6, .int x6), (7, .int x7)] []) : JJ X ad γ (RQm X ad 1 22 (outpi S)) (fcm (outpi S)) 1 22 cX4_holderIn 9 RX4 wsX4_holderIn (some .int) (fX4_holderIn_j46 F S x1 x2 x3 x5 x6 x7 s0 rec) S 46 [(0, .ref (ad 4 0)), (1, .int x1), (2, .int x2), (3, .int x3), (5, .int x5), (6, .int x6), (7, .int x7)] [.int s0] := by
  unfold fX4_holderIn_j46
  refine j_istore (lv2 := [(8, .int s0), (0, .ref (ad 4 0)), (1, .int x1), (2, .int x2), (3, .int x3), (5, .int x5), (6, .int x6), (7, .int x7)]) 46 dX4_holderIn_46 (by decide) rfl ?_
  refine j_iload 48 0 dX4_holderIn_48 rfl ?_
  refine j_if_eq 50 87 dX4_holderIn_50 (by decide) (fun _ => ?_) (fun _ => ?_)
  · refine j_iinc (v := x7 + 1) (lv2 := [(7, .int (x7 + 1)), (8, .int s0), (0, .ref (ad 4 0)), (1, .int x1), (2, .int x2), (3, .int x3), (5, .int x5), (6, .int x6)]) 87 7 dX4_holderIn_87 rfl rfl (by decide) rfl ?_
    refine j_goto 90 10 dX4_holderIn_90 (by decide) ?_
    refine j_sub [2, 3, 4, 5, 6, 7, 0] rfl ?_
    exact ih _ x5 x6 (x7 + 1)
  · refine j_aload_n 53 1 dX4_holderIn_53 rfl rfl ?_
    refine j_getr (c2 := 26) (n2 := 0) 54 7 nX4_holderIn_X4 rfl (by decide) (prs_mem (by decide) (by decide)) (by decide) (by decide) wX4_holderIn_f31 (Or.inl rfl) rfl rfl rfl dX4_holderIn_54 ?_
    refine j_iload 57 7 dX4_holderIn_57 rfl ?_
    refine j_iald (c := 26) (n := 0) (L := 60) 59 (prs_mem (by decide) (by decide)) (by decide) rfl rfl rfl dX4_holderIn_59 ?_
    refine j_iload 60 6 dX4_holderIn_60 rfl ?_
    refine j_iload_n 62 4 dX4_holderIn_62 rfl rfl ?_
    refine j_callSN_pi 63  [.int (gA S 26 0 x7.toNatClampNeg), .int x6, .int x3] [] (host := "TwoTongues") gX4_holderIn_X11_within_n56 rfl (by decide +kernel) wX4_holderIn_stX11_within wX4_holderIn_inX11_within eX11_within ⟨Nat.le_of_ble_eq_true rfl, Nat.le_of_ble_eq_true rfl⟩ rfl rfl (Nat.le_of_ble_eq_true rfl) dX4_holderIn_63 (kX11_within S (gA S 26 0 x7.toNatClampNeg) x6 x3) (fun b_1 γ => ?_)
    refine j_if_eq 66 87 dX4_holderIn_66 (by decide) (fun _ => ?_) (fun _ => ?_)
    · refine j_iinc (v := x7 + 1) (lv2 := [(7, .int (x7 + 1)), (8, .int s0), (0, .ref (ad 4 0)), (1, .int x1), (2, .int x2), (3, .int x3), (5, .int x5), (6, .int x6)]) 87 7 dX4_holderIn_87 rfl rfl (by decide) rfl ?_
      refine j_goto 90 10 dX4_holderIn_90 (by decide) ?_
      refine j_sub [2, 3, 4, 5, 6, 7, 0] rfl ?_
      exact ih _ x5 x6 (x7 + 1)
    · refine j_aload_n 69 1 dX4_holderIn_69 rfl rfl ?_
      refine j_getr (c2 := 26) (n2 := 0) 70 7 nX4_holderIn_X4 rfl (by decide) (prs_mem (by decide) (by decide)) (by decide) (by decide) wX4_holderIn_f31 (Or.inl rfl) rfl rfl rfl dX4_holderIn_70 ?_
      refine j_iload 73 7 dX4_holderIn_73 rfl ?_
      refine j_iald (c := 26) (n := 0) (L := 60) 75 (prs_mem (by decide) (by decide)) (by decide) rfl rfl rfl dX4_holderIn_75 ?_
      refine j_bndi (fun x6_2 => ?_)
      refine j_istore (lv2 := [(6, .int x6_2), (8, .int s0), (0, .ref (ad 4 0)), (1, .int x1), (2, .int x2), (3, .int x3), (5, .int x5), (7, .int x7)]) 76 dX4_holderIn_76 (by decide) rfl ?_
      refine j_aload_n 78 2 dX4_holderIn_78 rfl rfl ?_
      refine j_getr (c2 := 25) (n2 := 0) 79 6 nX4_holderIn_X4 rfl (by decide) (prs_mem (by decide) (by decide)) (by decide) (by decide) wX4_holderIn_f28 (Or.inl rfl) rfl rfl rfl dX4_holderIn_79 ?_
      refine j_iload 82 7 dX4_holderIn_82 rfl ?_
      refine j_iald (c := 25) (n := 0) (L := 60) 84 (prs_mem (by decide) (by decide)) (by decide) rfl rfl rfl dX4_holderIn_84 ?_
      refine j_bndi (fun x5_3 => ?_)
      refine j_istore (lv2 := [(5, .int x5_3), (6, .int x6_2), (8, .int s0), (0, .ref (ad 4 0)), (1, .int x1), (2, .int x2), (3, .int x3), (7, .int x7)]) 85 dX4_holderIn_85 (by decide) rfl ?_
      refine j_iinc (v := x7 + 1) (lv2 := [(7, .int (x7 + 1)), (5, .int x5_3), (6, .int x6_2), (8, .int s0), (0, .ref (ad 4 0)), (1, .int x1), (2, .int x2), (3, .int x3)]) 87 7 dX4_holderIn_87 rfl rfl (by decide) rfl ?_
      refine j_goto 90 10 dX4_holderIn_90 (by decide) ?_
      refine j_sub [4, 5, 6, 7, 1, 2, 0] rfl ?_
      exact ih _ x5_3 x6_2 (x7 + 1)
set_option maxRecDepth 100000 in
set_option maxHeartbeats 4000000 in
theorem tX4_holderIn_j45 {ad : Nat → Nat → Nat} (X : Ctx) (γ : Nat → Nat) (F : Nat) (S : St) (x1 : Int32) (x2 : Int32) (x3 : Int32) (x5 : Int32) (x6 : Int32) (x7 : Int32) (rec : Int32 → Int32 → Int32 → Option Int32)  (ih : ∀ (γ : Nat → Nat) (x5 : Int32) (x6 : Int32) (x7 : Int32), JJ X ad γ (RQm X ad 1 22 (outpi S)) (fcm (outpi S)) 1 22 cX4_holderIn 9 RX4 wsX4_holderIn (some .int) (rec x5 x6 x7) S 10 [(0, .ref (ad 4 0)), (1, .int x1), (2, .int x2), (3, .int x3), (5, .int x5), (6, .int x6), (7, .int x7)] []) : JJ X ad γ (RQm X ad 1 22 (outpi S)) (fcm (outpi S)) 1 22 cX4_holderIn 9 RX4 wsX4_holderIn (some .int) (fX4_holderIn_j45 F S x1 x2 x3 x5 x6 x7 rec) S 45 [(0, .ref (ad 4 0)), (1, .int x1), (2, .int x2), (3, .int x3), (5, .int x5), (6, .int x6), (7, .int x7)] [] := by
  unfold fX4_holderIn_j45
  refine j_iconst (v := 0) 45 dX4_holderIn_45 (by decide) ?_
  exact tX4_holderIn_j46 X _ F S x1 x2 x3 x5 x6 x7 0 _ ih
set_option maxRecDepth 100000 in
set_option maxHeartbeats 4000000 in
theorem tX4_holderIn_L10 {ad : Nat → Nat → Nat} (X : Ctx) (F : Nat) (S : St) (x1 : Int32) (x2 : Int32) (x3 : Int32)   : ∀ (n : Nat) (γ : Nat → Nat) (x5 : Int32) (x6 : Int32) (x7 : Int32), JJ X ad γ (RQm X ad 1 22 (outpi S)) (fcm (outpi S)) 1 22 cX4_holderIn 9 RX4 wsX4_holderIn (some .int) (fX4_holderIn_L10 F S x1 x2 x3 n x5 x6 x7) S 10 [(0, .ref (ad 4 0)), (1, .int x1), (2, .int x2), (3, .int x3), (5, .int x5), (6, .int x6), (7, .int x7)] [] := by
  intro n
  induction n with
  | zero => intro _ _ _ _; exact j_none
  | succ n ih =>
    intro γ x5 x6 x7
    rw [show fX4_holderIn_L10 F S x1 x2 x3 (n + 1) x5 x6 x7 = fX4_holderIn_b10 F S x1 x2 x3 (fX4_holderIn_L10 F S x1 x2 x3 n) x5 x6 x7 from rfl]
    unfold fX4_holderIn_b10
    refine j_iload 10 6 dX4_holderIn_10 rfl ?_
    refine j_aload_n 12 0 dX4_holderIn_12 rfl rfl ?_
    refine j_geti 13 8 nX4_holderIn_X4 rfl (by decide) (prs_mem (by decide) (by decide)) (by decide) (by decide) wX4_holderIn_f60 (Or.inl rfl) rfl dX4_holderIn_13 ?_
    refine j_icmp_ge 16 93 dX4_holderIn_16 (by decide) (fun _ => ?_) (fun _ => ?_)
    · refine j_iload 93 4 dX4_holderIn_93 rfl ?_
      exact j_iret 95 rfl dX4_holderIn_95
    · refine j_aload_n 19 0 dX4_holderIn_19 rfl rfl ?_
      refine j_getr (c2 := 23) (n2 := 0) 20 4 nX4_holderIn_X4 rfl (by decide) (prs_mem (by decide) (by decide)) (by decide) (by decide) wX4_holderIn_f21 (Or.inl rfl) rfl rfl rfl dX4_holderIn_20 ?_
      refine j_iload 23 6 dX4_holderIn_23 rfl ?_
      refine j_iald (c := 23) (n := 0) (L := 60) 25 (prs_mem (by decide) (by decide)) (by decide) rfl rfl rfl dX4_holderIn_25 ?_
      refine j_iload_n 26 1 dX4_holderIn_26 rfl rfl ?_
      refine j_icmp_ne 27 45 dX4_holderIn_27 (by decide) (fun _ => ?_) (fun _ => ?_)
      · exact tX4_holderIn_j45 X _ F S x1 x2 x3 x5 x6 x7 _ ih
      · refine j_aload_n 30 0 dX4_holderIn_30 rfl rfl ?_
        refine j_getr (c2 := 24) (n2 := 0) 31 5 nX4_holderIn_X4 rfl (by decide) (prs_mem (by decide) (by decide)) (by decide) (by decide) wX4_holderIn_f24 (Or.inl rfl) rfl rfl rfl dX4_holderIn_31 ?_
        refine j_iload 34 6 dX4_holderIn_34 rfl ?_
        refine j_zald (c := 24) (n := 0) (L := 60) 36 (prs_mem (by decide) (by decide)) (by decide) rfl rfl rfl dX4_holderIn_36 ?_
        refine j_iload_n 37 2 dX4_holderIn_37 rfl rfl ?_
        refine j_icmp_ne 38 45 dX4_holderIn_38 (by decide) (fun _ => ?_) (fun _ => ?_)
        · exact tX4_holderIn_j45 X _ F S x1 x2 x3 x5 x6 x7 _ ih
        · refine j_iconst (v := 1) 41 dX4_holderIn_41 (by decide) ?_
          refine j_goto 42 46 dX4_holderIn_42 (by decide) ?_
          exact tX4_holderIn_j46 X _ F S x1 x2 x3 x5 x6 x7 1 _ ih
set_option maxRecDepth 100000 in
set_option maxHeartbeats 4000000 in
theorem tX4_holderIn {ad : Nat → Nat → Nat} (X : Ctx) (γ : Nat → Nat) (F : Nat) (S : St) (p1 : Int32) (p2 : Int32) (p3 : Int32) (p4 : Int32) : JJ X ad γ (RQm X ad 1 22 (outpi S)) (fcm (outpi S)) 1 22 cX4_holderIn 9 RX4 wsX4_holderIn (some .int) (fX4_holderIn F S p1 p2 p3 p4) S 0 [(0, .ref (ad 4 0)), (1, .int p1), (2, .int p2), (3, .int p3), (4, .int p4)] [] := by
  unfold fX4_holderIn
  refine j_iload 0 4 dX4_holderIn_0 rfl ?_
  refine j_istore (lv2 := [(5, .int p4), (0, .ref (ad 4 0)), (1, .int p1), (2, .int p2), (3, .int p3), (4, .int p4)]) 2 dX4_holderIn_2 (by decide) rfl ?_
  refine j_iconst (v := 0) 4 dX4_holderIn_4 (by decide) ?_
  refine j_istore (lv2 := [(6, .int 0), (5, .int p4), (0, .ref (ad 4 0)), (1, .int p1), (2, .int p2), (3, .int p3), (4, .int p4)]) 5 dX4_holderIn_5 (by decide) rfl ?_
  refine j_iconst (v := 0) 7 dX4_holderIn_7 (by decide) ?_
  refine j_istore (lv2 := [(7, .int 0), (6, .int 0), (5, .int p4), (0, .ref (ad 4 0)), (1, .int p1), (2, .int p2), (3, .int p3), (4, .int p4)]) 8 dX4_holderIn_8 (by decide) rfl ?_
  refine j_sub [3, 4, 5, 6, 2, 1, 0] rfl ?_
  exact tX4_holderIn_L10 X F S p1 p2 p3 F _ p4 0 0
set_option maxRecDepth 100000 in
set_option maxHeartbeats 4000000 in
theorem kX4_holderIn {ad : Nat → Nat → Nat} (F : Nat) (S : St) (p1 : Int32) (p2 : Int32) (p3 : Int32) (p4 : Int32) : ∀ b, fX4_holderIn F S p1 p2 p3 p4 = some b → ∀ l dC dI cy, CT l dC dI cy ad yX4_holderIn wsX4_holderIn 1 22 [.ref (ad 4 0), .int p1, .int p2, .int p3, .int p4] S (some (.int b)) S :=
  fun b hb l dC dI cy => ct_of (l := l) (dC := dC) (dI := dI) (cy := cy) (outpi S) (by decide) rfl (Nat.le_of_ble_eq_true rfl) rfl (fun X γ => tX4_holderIn X γ F S p1 p2 p3 p4) b hb
-- X4_ownerOf
set_option maxRecDepth 100000 in
set_option maxHeartbeats 4000000 in
theorem tX4_ownerOf {ad : Nat → Nat → Nat} (X : Ctx) (γ : Nat → Nat) (F : Nat) (S : St) (p1 : Int32) (p2 : Int32) : JJ X ad γ (RQm X ad 2 50 (outpi S)) (fcm (outpi S)) 2 50 cX4_ownerOf 3 RX4 wsX4_ownerOf (some .int) (fX4_ownerOf F S p1 p2) S 0 [(0, .ref (ad 4 0)), (1, .int p1), (2, .int p2)] [] := by
  unfold fX4_ownerOf
  refine j_aload_n 0 0 dX4_ownerOf_0 rfl rfl ?_
  refine j_iload_n 1 1 dX4_ownerOf_1 rfl rfl ?_
  refine j_iconst (v := 0) 2 dX4_ownerOf_2 (by decide) ?_
  refine j_iload_n 3 2 dX4_ownerOf_3 rfl rfl ?_
  refine j_iconst (v := (-1)) 4 dX4_ownerOf_4 (by decide) ?_
  refine j_callV_pi 5 rfl (by decide) (prs_mem (by decide) (by decide))  [.int p1, .int 0, .int p2, .int (-1)] [] gX4_ownerOf_X4_holderIn rfl eX4_holderIn ⟨Nat.le_of_ble_eq_true rfl, Nat.le_of_ble_eq_true rfl⟩ rfl rfl (Nat.le_of_ble_eq_true rfl) dX4_ownerOf_5 (kX4_holderIn F S p1 0 p2 (-1)) (fun b_1 γ => ?_)
  exact j_iret 8 rfl dX4_ownerOf_8
set_option maxRecDepth 100000 in
set_option maxHeartbeats 4000000 in
theorem kX4_ownerOf {ad : Nat → Nat → Nat} (F : Nat) (S : St) (p1 : Int32) (p2 : Int32) : ∀ b, fX4_ownerOf F S p1 p2 = some b → ∀ l dC dI cy, CT l dC dI cy ad yX4_ownerOf wsX4_ownerOf 2 50 [.ref (ad 4 0), .int p1, .int p2] S (some (.int b)) S :=
  fun b hb l dC dI cy => ct_of (l := l) (dC := dC) (dI := dI) (cy := cy) (outpi S) (by decide) rfl (Nat.le_of_ble_eq_true rfl) rfl (fun X γ => tX4_ownerOf X γ F S p1 p2) b hb
-- X4_usersOf
set_option maxRecDepth 100000 in
set_option maxHeartbeats 4000000 in
theorem tX4_usersOf {ad : Nat → Nat → Nat} (X : Ctx) (γ : Nat → Nat) (F : Nat) (S : St) (p1 : Int32) (p2 : Int32) : JJ X ad γ (RQm X ad 2 50 (outpi S)) (fcm (outpi S)) 2 50 cX4_usersOf 3 RX4 wsX4_usersOf (some .int) (fX4_usersOf F S p1 p2) S 0 [(0, .ref (ad 4 0)), (1, .int p1), (2, .int p2)] [] := by
  unfold fX4_usersOf
  refine j_aload_n 0 0 dX4_usersOf_0 rfl rfl ?_
  refine j_iload_n 1 1 dX4_usersOf_1 rfl rfl ?_
  refine j_iconst (v := 1) 2 dX4_usersOf_2 (by decide) ?_
  refine j_iload_n 3 2 dX4_usersOf_3 rfl rfl ?_
  refine j_iconst (v := 0) 4 dX4_usersOf_4 (by decide) ?_
  refine j_callV_pi 5 rfl (by decide) (prs_mem (by decide) (by decide))  [.int p1, .int 1, .int p2, .int 0] [] gX4_usersOf_X4_holderIn rfl eX4_holderIn ⟨Nat.le_of_ble_eq_true rfl, Nat.le_of_ble_eq_true rfl⟩ rfl rfl (Nat.le_of_ble_eq_true rfl) dX4_usersOf_5 (kX4_holderIn F S p1 1 p2 0) (fun b_1 γ => ?_)
  exact j_iret 8 rfl dX4_usersOf_8
set_option maxRecDepth 100000 in
set_option maxHeartbeats 4000000 in
theorem kX4_usersOf {ad : Nat → Nat → Nat} (F : Nat) (S : St) (p1 : Int32) (p2 : Int32) : ∀ b, fX4_usersOf F S p1 p2 = some b → ∀ l dC dI cy, CT l dC dI cy ad yX4_usersOf wsX4_usersOf 2 50 [.ref (ad 4 0), .int p1, .int p2] S (some (.int b)) S :=
  fun b hb l dC dI cy => ct_of (l := l) (dC := dC) (dI := dI) (cy := cy) (outpi S) (by decide) rfl (Nat.le_of_ble_eq_true rfl) rfl (fun X γ => tX4_usersOf X γ F S p1 p2) b hb
-- X4_addDeed
theorem nX4_addDeed_X4 : ∀ w ∈ u_ws RX4 TX4 17, w ∈ wsX4_addDeed := by decide +kernel
theorem wX4_addDeed_f67 : Cond.fieldLink RX4 67 "TwoTongues$Land" "deeds" "I" ∈ wsX4_addDeed := by decide +kernel
theorem wX4_addDeed_f34 : Cond.fieldLink RX4 34 "TwoTongues$Land" "soldBlock" "[I" ∈ wsX4_addDeed := by decide +kernel
theorem wX4_addDeed_f37 : Cond.fieldLink RX4 37 "TwoTongues$Land" "seller" "[I" ∈ wsX4_addDeed := by decide +kernel
theorem wX4_addDeed_f40 : Cond.fieldLink RX4 40 "TwoTongues$Land" "soldIn" "[I" ∈ wsX4_addDeed := by decide +kernel
set_option maxRecDepth 100000 in
set_option maxHeartbeats 4000000 in
theorem tX4_addDeed {ad : Nat → Nat → Nat} (X : Ctx) (γ : Nat → Nat) (S : St) (p1 : Int32) (p2 : Int32) (p3 : Int32) : JJ X ad γ (RQm X ad 0 0 outei) (fcm outei) 0 0 cX4_addDeed 4 RX4 wsX4_addDeed (some .int) (fX4_addDeed S p1 p2 p3) S 0 [(0, .ref (ad 4 0)), (1, .int p1), (2, .int p2), (3, .int p3)] [] := by
  unfold fX4_addDeed
  refine j_aload_n 0 0 dX4_addDeed_0 rfl rfl ?_
  refine j_geti 1 12 nX4_addDeed_X4 rfl (by decide) (prs_mem (by decide) (by decide)) (by decide) (by decide) wX4_addDeed_f67 (Or.inl rfl) rfl dX4_addDeed_1 ?_
  refine j_bipush (v := 20) 4 dX4_addDeed_4 (by decide) ?_
  refine j_icmp_lt 6 12 dX4_addDeed_6 (by decide) (fun _ => ?_) (fun _ => ?_)
  · refine j_aload_n 12 0 dX4_addDeed_12 rfl rfl ?_
    refine j_getr (c2 := 27) (n2 := 0) 13 9 nX4_addDeed_X4 rfl (by decide) (prs_mem (by decide) (by decide)) (by decide) (by decide) wX4_addDeed_f34 (Or.inl rfl) rfl rfl rfl dX4_addDeed_13 ?_
    refine j_aload_n 16 0 dX4_addDeed_16 rfl rfl ?_
    refine j_geti 17 12 nX4_addDeed_X4 rfl (by decide) (prs_mem (by decide) (by decide)) (by decide) (by decide) wX4_addDeed_f67 (Or.inl rfl) rfl dX4_addDeed_17 ?_
    refine j_iload_n 20 1 dX4_addDeed_20 rfl rfl ?_
    refine j_iast (c := 27) (n := 0) (L := 20) 21 (prs_mem (by decide) (by decide)) (by decide) rfl rfl rfl dX4_addDeed_21 (j_bs (fun S_1 => ?_))
    refine j_aload_n 22 0 dX4_addDeed_22 rfl rfl ?_
    refine j_getr (c2 := 28) (n2 := 0) 23 10 nX4_addDeed_X4 rfl (by decide) (prs_mem (by decide) (by decide)) (by decide) (by decide) wX4_addDeed_f37 (Or.inl rfl) rfl rfl rfl dX4_addDeed_23 ?_
    refine j_aload_n 26 0 dX4_addDeed_26 rfl rfl ?_
    refine j_geti 27 12 nX4_addDeed_X4 rfl (by decide) (prs_mem (by decide) (by decide)) (by decide) (by decide) wX4_addDeed_f67 (Or.inl rfl) rfl dX4_addDeed_27 ?_
    refine j_iload_n 30 2 dX4_addDeed_30 rfl rfl ?_
    refine j_iast (c := 28) (n := 0) (L := 20) 31 (prs_mem (by decide) (by decide)) (by decide) rfl rfl rfl dX4_addDeed_31 (j_bs (fun S_2 => ?_))
    refine j_aload_n 32 0 dX4_addDeed_32 rfl rfl ?_
    refine j_getr (c2 := 29) (n2 := 0) 33 11 nX4_addDeed_X4 rfl (by decide) (prs_mem (by decide) (by decide)) (by decide) (by decide) wX4_addDeed_f40 (Or.inl rfl) rfl rfl rfl dX4_addDeed_33 ?_
    refine j_aload_n 36 0 dX4_addDeed_36 rfl rfl ?_
    refine j_geti 37 12 nX4_addDeed_X4 rfl (by decide) (prs_mem (by decide) (by decide)) (by decide) (by decide) wX4_addDeed_f67 (Or.inl rfl) rfl dX4_addDeed_37 ?_
    refine j_iload_n 40 3 dX4_addDeed_40 rfl rfl ?_
    refine j_iast (c := 29) (n := 0) (L := 20) 41 (prs_mem (by decide) (by decide)) (by decide) rfl rfl rfl dX4_addDeed_41 (j_bs (fun S_3 => ?_))
    refine j_aload_n 42 0 dX4_addDeed_42 rfl rfl ?_
    refine j_dup 43 dX4_addDeed_43 rfl ?_
    refine j_geti 44 12 nX4_addDeed_X4 rfl (by decide) (prs_mem (by decide) (by decide)) (by decide) (by decide) wX4_addDeed_f67 (Or.inl rfl) rfl dX4_addDeed_44 ?_
    refine j_iconst (v := 1) 47 dX4_addDeed_47 (by decide) ?_
    refine j_iadd 48 dX4_addDeed_48 ?_
    refine j_puti 49 12 nX4_addDeed_X4 rfl (by decide) (prs_mem (by decide) (by decide)) (by decide) (by decide) wX4_addDeed_f67 (Or.inl rfl) tyX4 tyX4_ok nmX4 rfl (by decide) rfl dX4_addDeed_49 (j_bs (fun S_4 => ?_))
    refine j_aload_n 52 0 dX4_addDeed_52 rfl rfl ?_
    refine j_geti 53 12 nX4_addDeed_X4 rfl (by decide) (prs_mem (by decide) (by decide)) (by decide) (by decide) wX4_addDeed_f67 (Or.inl rfl) rfl dX4_addDeed_53 ?_
    refine j_iconst (v := 1) 56 dX4_addDeed_56 (by decide) ?_
    refine j_isub 57 dX4_addDeed_57 ?_
    exact j_iret 58 rfl dX4_addDeed_58
  · refine j_bipush (v := (-3)) 9 dX4_addDeed_9 (by decide) ?_
    exact j_iret 11 rfl dX4_addDeed_11
set_option maxRecDepth 100000 in
set_option maxHeartbeats 4000000 in
theorem kX4_addDeed {ad : Nat → Nat → Nat} (S : St) (p1 : Int32) (p2 : Int32) (p3 : Int32) : ∀ b, fX4_addDeed S p1 p2 p3 = some b → ∀ l dC dI cy, CT l dC dI cy ad yX4_addDeed wsX4_addDeed 0 0 [.ref (ad 4 0), .int p1, .int p2, .int p3] S (some (.int b.1)) b.2 :=
  fun b hb l dC dI cy => ct_of (l := l) (dC := dC) (dI := dI) (cy := cy) outei (by decide) rfl (Nat.le_of_ble_eq_true rfl) rfl (fun X γ => tX4_addDeed X γ S p1 p2 p3) b hb
-- X4_rightOfSeller
theorem nX4_rightOfSeller_X4 : ∀ w ∈ u_ws RX4 TX4 17, w ∈ wsX4_rightOfSeller := by decide +kernel
theorem wX4_rightOfSeller_f37 : Cond.fieldLink RX4 37 "TwoTongues$Land" "seller" "[I" ∈ wsX4_rightOfSeller := by decide +kernel
theorem wX4_rightOfSeller_f34 : Cond.fieldLink RX4 34 "TwoTongues$Land" "soldBlock" "[I" ∈ wsX4_rightOfSeller := by decide +kernel
theorem wX4_rightOfSeller_f40 : Cond.fieldLink RX4 40 "TwoTongues$Land" "soldIn" "[I" ∈ wsX4_rightOfSeller := by decide +kernel
theorem wX4_rightOfSeller_stX11_hasBit : Cond.static yX11_hasBit ∈ wsX4_rightOfSeller := by decide +kernel
theorem wX4_rightOfSeller_inX11_hasBit : Cond.initialized yX11_hasBit.cls ∈ wsX4_rightOfSeller := by decide +kernel
set_option maxRecDepth 100000 in
set_option maxHeartbeats 4000000 in
theorem tX4_rightOfSeller_j68 {ad : Nat → Nat → Nat} (X : Ctx) (γ : Nat → Nat) (F : Nat) (S : St) (x2 : Int32) (x3 : Int32) (x4 : Int32)   : JJ X ad γ (RQm X ad 3 72 (outpi S)) (fcm (outpi S)) 3 72 cX4_rightOfSeller 5 RX4 wsX4_rightOfSeller (some .int) (fX4_rightOfSeller_j68 F S x2 x3 x4) S 68 [(2, .int x2), (3, .int x3), (4, .int x4)] [] := by
  unfold fX4_rightOfSeller_j68
  refine j_iload 68 2 dX4_rightOfSeller_68 rfl ?_
  refine j_if_ne 70 81 dX4_rightOfSeller_70 (by decide) (fun _ => ?_) (fun _ => ?_)
  · refine j_iconst (v := 1) 81 dX4_rightOfSeller_81 (by decide) ?_
    refine j_goto 82 86 dX4_rightOfSeller_82 (by decide) ?_
    exact j_iret 86 rfl dX4_rightOfSeller_86
  · refine j_iload_n 73 1 dX4_rightOfSeller_73 rfl rfl ?_
    refine j_iload_n 74 0 dX4_rightOfSeller_74 rfl rfl ?_
    refine j_callSN_pi 75  [.int x3, .int x2] [] (host := "TwoTongues") gX4_rightOfSeller_X11_hasBit_n77 rfl (by decide +kernel) wX4_rightOfSeller_stX11_hasBit wX4_rightOfSeller_inX11_hasBit eX11_hasBit ⟨Nat.le_of_ble_eq_true rfl, Nat.le_of_ble_eq_true rfl⟩ rfl rfl (Nat.le_of_ble_eq_true rfl) dX4_rightOfSeller_75 (kX11_hasBit S x3 x2) (fun b_4 γ => ?_)
    refine j_if_eq 78 85 dX4_rightOfSeller_78 (by decide) (fun _ => ?_) (fun _ => ?_)
    · refine j_iconst (v := 0) 85 dX4_rightOfSeller_85 (by decide) ?_
      exact j_iret 86 rfl dX4_rightOfSeller_86
    · refine j_iconst (v := 1) 81 dX4_rightOfSeller_81 (by decide) ?_
      refine j_goto 82 86 dX4_rightOfSeller_82 (by decide) ?_
      exact j_iret 86 rfl dX4_rightOfSeller_86
set_option maxRecDepth 100000 in
set_option maxHeartbeats 4000000 in
theorem tX4_rightOfSeller_j49 {ad : Nat → Nat → Nat} (X : Ctx) (γ : Nat → Nat) (F : Nat) (S : St) (x2 : Int32) (x3 : Int32) (s0 : Int32)   : JJ X ad γ (RQm X ad 3 72 (outpi S)) (fcm (outpi S)) 3 72 cX4_rightOfSeller 5 RX4 wsX4_rightOfSeller (some .int) (fX4_rightOfSeller_j49 F S x2 x3 s0) S 49 [(2, .int x2), (3, .int x3)] [.int s0] := by
  unfold fX4_rightOfSeller_j49
  refine j_istore (lv2 := [(4, .int s0), (2, .int x2), (3, .int x3)]) 49 dX4_rightOfSeller_49 (by decide) rfl ?_
  refine j_iload 51 0 dX4_rightOfSeller_51 rfl ?_
  refine j_if_eq 53 68 dX4_rightOfSeller_53 (by decide) (fun _ => ?_) (fun _ => ?_)
  · refine j_sub [1, 2, 0] rfl ?_
    exact tX4_rightOfSeller_j68 X _ F S x2 x3 s0
  · refine j_iload_n 56 2 dX4_rightOfSeller_56 rfl rfl ?_
    refine j_iconst (v := 1) 57 dX4_rightOfSeller_57 (by decide) ?_
    refine j_iload_n 58 1 dX4_rightOfSeller_58 rfl rfl ?_
    refine j_ishl 59 dX4_rightOfSeller_59 ?_
    refine j_iconst (v := (-1)) 60 dX4_rightOfSeller_60 (by decide) ?_
    refine j_ixor 61 dX4_rightOfSeller_61 ?_
    refine j_iand 62 dX4_rightOfSeller_62 ?_
    refine j_if_ne 63 68 dX4_rightOfSeller_63 (by decide) (fun _ => ?_) (fun _ => ?_)
    · refine j_sub [1, 2, 0] rfl ?_
      exact tX4_rightOfSeller_j68 X _ F S x2 x3 s0
    · refine j_iconst (v := 2) 66 dX4_rightOfSeller_66 (by decide) ?_
      exact j_iret 67 rfl dX4_rightOfSeller_67
set_option maxRecDepth 100000 in
set_option maxHeartbeats 4000000 in
theorem tX4_rightOfSeller {ad : Nat → Nat → Nat} (X : Ctx) (γ : Nat → Nat) (F : Nat) (S : St) (p1 : Int32) : JJ X ad γ (RQm X ad 3 72 (outpi S)) (fcm (outpi S)) 3 72 cX4_rightOfSeller 5 RX4 wsX4_rightOfSeller (some .int) (fX4_rightOfSeller F S p1) S 0 [(0, .ref (ad 4 0)), (1, .int p1)] [] := by
  unfold fX4_rightOfSeller
  refine j_aload_n 0 0 dX4_rightOfSeller_0 rfl rfl ?_
  refine j_getr (c2 := 28) (n2 := 0) 1 10 nX4_rightOfSeller_X4 rfl (by decide) (prs_mem (by decide) (by decide)) (by decide) (by decide) wX4_rightOfSeller_f37 (Or.inl rfl) rfl rfl rfl dX4_rightOfSeller_1 ?_
  refine j_iload_n 4 1 dX4_rightOfSeller_4 rfl rfl ?_
  refine j_iald (c := 28) (n := 0) (L := 20) 5 (prs_mem (by decide) (by decide)) (by decide) rfl rfl rfl dX4_rightOfSeller_5 ?_
  refine j_bndi (fun x2_1 => ?_)
  refine j_istore_n (lv2 := [(2, .int x2_1), (0, .ref (ad 4 0)), (1, .int p1)]) 6 dX4_rightOfSeller_6 rfl (by decide) rfl ?_
  refine j_aload_n 7 1 dX4_rightOfSeller_7 rfl rfl ?_
  refine j_aload_n 8 1 dX4_rightOfSeller_8 rfl rfl ?_
  refine j_getr (c2 := 27) (n2 := 0) 9 9 nX4_rightOfSeller_X4 rfl (by decide) (prs_mem (by decide) (by decide)) (by decide) (by decide) wX4_rightOfSeller_f34 (Or.inl rfl) rfl rfl rfl dX4_rightOfSeller_9 ?_
  refine j_iload_n 12 2 dX4_rightOfSeller_12 rfl rfl ?_
  refine j_iald (c := 27) (n := 0) (L := 20) 13 (prs_mem (by decide) (by decide)) (by decide) rfl rfl rfl dX4_rightOfSeller_13 ?_
  refine j_aload_n 14 1 dX4_rightOfSeller_14 rfl rfl ?_
  refine j_getr (c2 := 29) (n2 := 0) 15 11 nX4_rightOfSeller_X4 rfl (by decide) (prs_mem (by decide) (by decide)) (by decide) (by decide) wX4_rightOfSeller_f40 (Or.inl rfl) rfl rfl rfl dX4_rightOfSeller_15 ?_
  refine j_iload_n 18 2 dX4_rightOfSeller_18 rfl rfl ?_
  refine j_iald (c := 29) (n := 0) (L := 20) 19 (prs_mem (by decide) (by decide)) (by decide) rfl rfl rfl dX4_rightOfSeller_19 ?_
  refine j_callV_pi 20 rfl (by decide) (prs_mem (by decide) (by decide))  [.int (gA S 27 0 p1.toNatClampNeg), .int (gA S 29 0 p1.toNatClampNeg)] [] gX4_rightOfSeller_X4_usersOf rfl eX4_usersOf ⟨Nat.le_of_ble_eq_true rfl, Nat.le_of_ble_eq_true rfl⟩ rfl rfl (Nat.le_of_ble_eq_true rfl) dX4_rightOfSeller_20 (kX4_usersOf F S (gA S 27 0 p1.toNatClampNeg) (gA S 29 0 p1.toNatClampNeg)) (fun b_2 γ => ?_)
  refine j_istore_n (lv2 := [(3, .int b_2), (2, .int x2_1), (0, .ref (ad 4 0)), (1, .int p1)]) 23 dX4_rightOfSeller_23 rfl (by decide) rfl ?_
  refine j_aload_n 24 2 dX4_rightOfSeller_24 rfl rfl ?_
  refine j_aload_n 25 2 dX4_rightOfSeller_25 rfl rfl ?_
  refine j_getr (c2 := 27) (n2 := 0) 26 9 nX4_rightOfSeller_X4 rfl (by decide) (prs_mem (by decide) (by decide)) (by decide) (by decide) wX4_rightOfSeller_f34 (Or.inl rfl) rfl rfl rfl dX4_rightOfSeller_26 ?_
  refine j_iload_n 29 3 dX4_rightOfSeller_29 rfl rfl ?_
  refine j_iald (c := 27) (n := 0) (L := 20) 30 (prs_mem (by decide) (by decide)) (by decide) rfl rfl rfl dX4_rightOfSeller_30 ?_
  refine j_aload_n 31 2 dX4_rightOfSeller_31 rfl rfl ?_
  refine j_getr (c2 := 29) (n2 := 0) 32 11 nX4_rightOfSeller_X4 rfl (by decide) (prs_mem (by decide) (by decide)) (by decide) (by decide) wX4_rightOfSeller_f40 (Or.inl rfl) rfl rfl rfl dX4_rightOfSeller_32 ?_
  refine j_iload_n 35 3 dX4_rightOfSeller_35 rfl rfl ?_
  refine j_iald (c := 29) (n := 0) (L := 20) 36 (prs_mem (by decide) (by decide)) (by decide) rfl rfl rfl dX4_rightOfSeller_36 ?_
  refine j_callV_pi 37 rfl (by decide) (prs_mem (by decide) (by decide))  [.int (gA S 27 0 p1.toNatClampNeg), .int (gA S 29 0 p1.toNatClampNeg)] [] gX4_rightOfSeller_X4_ownerOf rfl eX4_ownerOf ⟨Nat.le_of_ble_eq_true rfl, Nat.le_of_ble_eq_true rfl⟩ rfl rfl (Nat.le_of_ble_eq_true rfl) dX4_rightOfSeller_37 (kX4_ownerOf F S (gA S 27 0 p1.toNatClampNeg) (gA S 29 0 p1.toNatClampNeg)) (fun b_3 γ => ?_)
  refine j_iload_n 40 1 dX4_rightOfSeller_40 rfl rfl ?_
  refine j_icmp_ne 41 48 dX4_rightOfSeller_41 (by decide) (fun _ => ?_) (fun _ => ?_)
  · refine j_iconst (v := 0) 48 dX4_rightOfSeller_48 (by decide) ?_
    refine j_sub [1, 0] rfl ?_
    exact tX4_rightOfSeller_j49 X _ F S x2_1 b_2 0
  · refine j_iconst (v := 1) 44 dX4_rightOfSeller_44 (by decide) ?_
    refine j_goto 45 49 dX4_rightOfSeller_45 (by decide) ?_
    refine j_sub [1, 0] rfl ?_
    exact tX4_rightOfSeller_j49 X _ F S x2_1 b_2 1
set_option maxRecDepth 100000 in
set_option maxHeartbeats 4000000 in
theorem kX4_rightOfSeller {ad : Nat → Nat → Nat} (F : Nat) (S : St) (p1 : Int32) : ∀ b, fX4_rightOfSeller F S p1 = some b → ∀ l dC dI cy, CT l dC dI cy ad yX4_rightOfSeller wsX4_rightOfSeller 3 72 [.ref (ad 4 0), .int p1] S (some (.int b)) S :=
  fun b hb l dC dI cy => ct_of (l := l) (dC := dC) (dI := dI) (cy := cy) (outpi S) (by decide) rfl (Nat.le_of_ble_eq_true rfl) rfl (fun X γ => tX4_rightOfSeller X γ F S p1) b hb
-- X4_firstSoldTwice
theorem nX4_firstSoldTwice_X4 : ∀ w ∈ u_ws RX4 TX4 17, w ∈ wsX4_firstSoldTwice := by decide +kernel
theorem wX4_firstSoldTwice_f67 : Cond.fieldLink RX4 67 "TwoTongues$Land" "deeds" "I" ∈ wsX4_firstSoldTwice := by decide +kernel
theorem wX4_firstSoldTwice_f34 : Cond.fieldLink RX4 34 "TwoTongues$Land" "soldBlock" "[I" ∈ wsX4_firstSoldTwice := by decide +kernel
theorem wX4_firstSoldTwice_f37 : Cond.fieldLink RX4 37 "TwoTongues$Land" "seller" "[I" ∈ wsX4_firstSoldTwice := by decide +kernel
set_option maxRecDepth 100000 in
set_option maxHeartbeats 4000000 in
theorem tX4_firstSoldTwice_L4 {ad : Nat → Nat → Nat} (X : Ctx) (F : Nat) (S : St) (x1 : Int32) (k46 : Int32 → Int32 → Option Int32)  (hk46 : ∀ (γ : Nat → Nat) (x2 : Int32) (x3 : Int32), JJ X ad γ (RQm X ad 0 0 (outpi S)) (fcm (outpi S)) 0 0 cX4_firstSoldTwice 4 RX4 wsX4_firstSoldTwice (some .int) (k46 x2 x3) S 46 [(2, .int x2), (3, .int x3)] []) : ∀ (n : Nat) (γ : Nat → Nat) (x2 : Int32) (x3 : Int32), JJ X ad γ (RQm X ad 0 0 (outpi S)) (fcm (outpi S)) 0 0 cX4_firstSoldTwice 4 RX4 wsX4_firstSoldTwice (some .int) (fX4_firstSoldTwice_L4 F S x1 k46 n x2 x3) S 4 [(0, .ref (ad 4 0)), (1, .int x1), (2, .int x2), (3, .int x3)] [] := by
  intro n
  induction n with
  | zero => intro _ _ _; exact j_none
  | succ n ih =>
    intro γ x2 x3
    rw [show fX4_firstSoldTwice_L4 F S x1 k46 (n + 1) x2 x3 = fX4_firstSoldTwice_b4 F S x1 k46 (fX4_firstSoldTwice_L4 F S x1 k46 n) x2 x3 from rfl]
    unfold fX4_firstSoldTwice_b4
    refine j_iload_n 4 3 dX4_firstSoldTwice_4 rfl rfl ?_
    refine j_aload_n 5 0 dX4_firstSoldTwice_5 rfl rfl ?_
    refine j_geti 6 12 nX4_firstSoldTwice_X4 rfl (by decide) (prs_mem (by decide) (by decide)) (by decide) (by decide) wX4_firstSoldTwice_f67 (Or.inl rfl) rfl dX4_firstSoldTwice_6 ?_
    refine j_icmp_ge 9 59 dX4_firstSoldTwice_9 (by decide) (fun _ => ?_) (fun _ => ?_)
    · refine j_bipush (v := (-4)) 59 dX4_firstSoldTwice_59 (by decide) ?_
      exact j_iret 61 rfl dX4_firstSoldTwice_61
    · refine j_aload_n 12 0 dX4_firstSoldTwice_12 rfl rfl ?_
      refine j_getr (c2 := 27) (n2 := 0) 13 9 nX4_firstSoldTwice_X4 rfl (by decide) (prs_mem (by decide) (by decide)) (by decide) (by decide) wX4_firstSoldTwice_f34 (Or.inl rfl) rfl rfl rfl dX4_firstSoldTwice_13 ?_
      refine j_iload_n 16 3 dX4_firstSoldTwice_16 rfl rfl ?_
      refine j_iald (c := 27) (n := 0) (L := 20) 17 (prs_mem (by decide) (by decide)) (by decide) rfl rfl rfl dX4_firstSoldTwice_17 ?_
      refine j_iload_n 18 1 dX4_firstSoldTwice_18 rfl rfl ?_
      refine j_icmp_ne 19 53 dX4_firstSoldTwice_19 (by decide) (fun _ => ?_) (fun _ => ?_)
      · refine j_iinc (v := x3 + 1) (lv2 := [(3, .int (x3 + 1)), (0, .ref (ad 4 0)), (1, .int x1), (2, .int x2)]) 53 3 dX4_firstSoldTwice_53 rfl rfl (by decide) rfl ?_
        refine j_goto 56 4 dX4_firstSoldTwice_56 (by decide) ?_
        refine j_sub [1, 2, 3, 0] rfl ?_
        exact ih _ x2 (x3 + 1)
      · refine j_iload_n 22 2 dX4_firstSoldTwice_22 rfl rfl ?_
        refine j_if_ge 23 31 dX4_firstSoldTwice_23 (by decide) (fun _ => ?_) (fun _ => ?_)
        · refine j_aload_n 31 0 dX4_firstSoldTwice_31 rfl rfl ?_
          refine j_getr (c2 := 28) (n2 := 0) 32 10 nX4_firstSoldTwice_X4 rfl (by decide) (prs_mem (by decide) (by decide)) (by decide) (by decide) wX4_firstSoldTwice_f37 (Or.inl rfl) rfl rfl rfl dX4_firstSoldTwice_32 ?_
          refine j_iload_n 35 3 dX4_firstSoldTwice_35 rfl rfl ?_
          refine j_iald (c := 28) (n := 0) (L := 20) 36 (prs_mem (by decide) (by decide)) (by decide) rfl rfl rfl dX4_firstSoldTwice_36 ?_
          refine j_aload_n 37 0 dX4_firstSoldTwice_37 rfl rfl ?_
          refine j_getr (c2 := 28) (n2 := 0) 38 10 nX4_firstSoldTwice_X4 rfl (by decide) (prs_mem (by decide) (by decide)) (by decide) (by decide) wX4_firstSoldTwice_f37 (Or.inl rfl) rfl rfl rfl dX4_firstSoldTwice_38 ?_
          refine j_iload_n 41 2 dX4_firstSoldTwice_41 rfl rfl ?_
          refine j_iald (c := 28) (n := 0) (L := 20) 42 (prs_mem (by decide) (by decide)) (by decide) rfl rfl rfl dX4_firstSoldTwice_42 ?_
          refine j_icmp_eq 43 53 dX4_firstSoldTwice_43 (by decide) (fun _ => ?_) (fun _ => ?_)
          · refine j_iinc (v := x3 + 1) (lv2 := [(3, .int (x3 + 1)), (0, .ref (ad 4 0)), (1, .int x1), (2, .int x2)]) 53 3 dX4_firstSoldTwice_53 rfl rfl (by decide) rfl ?_
            refine j_goto 56 4 dX4_firstSoldTwice_56 (by decide) ?_
            refine j_sub [1, 2, 3, 0] rfl ?_
            exact ih _ x2 (x3 + 1)
          · refine j_sub [2, 3] rfl ?_
            exact hk46 _ x2 x3
        · refine j_iload_n 26 3 dX4_firstSoldTwice_26 rfl rfl ?_
          refine j_istore_n (lv2 := [(2, .int x3), (0, .ref (ad 4 0)), (1, .int x1), (3, .int x3)]) 27 dX4_firstSoldTwice_27 rfl (by decide) rfl ?_
          refine j_goto 28 53 dX4_firstSoldTwice_28 (by decide) ?_
          refine j_iinc (v := x3 + 1) (lv2 := [(3, .int (x3 + 1)), (2, .int x3), (0, .ref (ad 4 0)), (1, .int x1)]) 53 3 dX4_firstSoldTwice_53 rfl rfl (by decide) rfl ?_
          refine j_goto 56 4 dX4_firstSoldTwice_56 (by decide) ?_
          refine j_sub [2, 3, 1, 0] rfl ?_
          exact ih _ x3 (x3 + 1)
set_option maxRecDepth 100000 in
set_option maxHeartbeats 4000000 in
theorem tX4_firstSoldTwice {ad : Nat → Nat → Nat} (X : Ctx) (γ : Nat → Nat) (F : Nat) (S : St) (p1 : Int32) : JJ X ad γ (RQm X ad 0 0 (outpi S)) (fcm (outpi S)) 0 0 cX4_firstSoldTwice 4 RX4 wsX4_firstSoldTwice (some .int) (fX4_firstSoldTwice F S p1) S 0 [(0, .ref (ad 4 0)), (1, .int p1)] [] := by
  unfold fX4_firstSoldTwice
  refine j_iconst (v := (-1)) 0 dX4_firstSoldTwice_0 (by decide) ?_
  refine j_istore_n (lv2 := [(2, .int (-1)), (0, .ref (ad 4 0)), (1, .int p1)]) 1 dX4_firstSoldTwice_1 rfl (by decide) rfl ?_
  refine j_iconst (v := 0) 2 dX4_firstSoldTwice_2 (by decide) ?_
  refine j_istore_n (lv2 := [(3, .int 0), (2, .int (-1)), (0, .ref (ad 4 0)), (1, .int p1)]) 3 dX4_firstSoldTwice_3 rfl (by decide) rfl ?_
  refine j_sub [2, 3, 1, 0] rfl ?_
  refine tX4_firstSoldTwice_L4 X F S p1 _ (fun γ x2_1 x3_2 => ?_) F _ (-1) 0
  refine j_bipush (v := 100) 46 dX4_firstSoldTwice_46 (by decide) ?_
  refine j_iload_n 48 0 dX4_firstSoldTwice_48 rfl rfl ?_
  refine j_imul 49 dX4_firstSoldTwice_49 ?_
  refine j_iload_n 50 1 dX4_firstSoldTwice_50 rfl rfl ?_
  refine j_iadd 51 dX4_firstSoldTwice_51 ?_
  exact j_iret 52 rfl dX4_firstSoldTwice_52
set_option maxRecDepth 100000 in
set_option maxHeartbeats 4000000 in
theorem kX4_firstSoldTwice {ad : Nat → Nat → Nat} (F : Nat) (S : St) (p1 : Int32) : ∀ b, fX4_firstSoldTwice F S p1 = some b → ∀ l dC dI cy, CT l dC dI cy ad yX4_firstSoldTwice wsX4_firstSoldTwice 0 0 [.ref (ad 4 0), .int p1] S (some (.int b)) S :=
  fun b hb l dC dI cy => ct_of (l := l) (dC := dC) (dI := dI) (cy := cy) (outpi S) (by decide) rfl (Nat.le_of_ble_eq_true rfl) rfl (fun X γ => tX4_firstSoldTwice X γ F S p1) b hb
-- X4_addTaking
theorem nX4_addTaking_X4 : ∀ w ∈ u_ws RX4 TX4 17, w ∈ wsX4_addTaking := by decide +kernel
theorem wX4_addTaking_f81 : Cond.fieldLink RX4 81 "TwoTongues$Land" "takings" "I" ∈ wsX4_addTaking := by decide +kernel
theorem wX4_addTaking_f43 : Cond.fieldLink RX4 43 "TwoTongues$Land" "takenBlock" "[I" ∈ wsX4_addTaking := by decide +kernel
theorem wX4_addTaking_f46 : Cond.fieldLink RX4 46 "TwoTongues$Land" "taker" "[I" ∈ wsX4_addTaking := by decide +kernel
theorem wX4_addTaking_f49 : Cond.fieldLink RX4 49 "TwoTongues$Land" "takenIn" "[I" ∈ wsX4_addTaking := by decide +kernel
set_option maxRecDepth 100000 in
set_option maxHeartbeats 4000000 in
theorem tX4_addTaking {ad : Nat → Nat → Nat} (X : Ctx) (γ : Nat → Nat) (S : St) (p1 : Int32) (p2 : Int32) (p3 : Int32) : JJ X ad γ (RQm X ad 0 0 outei) (fcm outei) 0 0 cX4_addTaking 4 RX4 wsX4_addTaking (some .int) (fX4_addTaking S p1 p2 p3) S 0 [(0, .ref (ad 4 0)), (1, .int p1), (2, .int p2), (3, .int p3)] [] := by
  unfold fX4_addTaking
  refine j_aload_n 0 0 dX4_addTaking_0 rfl rfl ?_
  refine j_geti 1 16 nX4_addTaking_X4 rfl (by decide) (prs_mem (by decide) (by decide)) (by decide) (by decide) wX4_addTaking_f81 (Or.inl rfl) rfl dX4_addTaking_1 ?_
  refine j_bipush (v := 12) 4 dX4_addTaking_4 (by decide) ?_
  refine j_icmp_lt 6 12 dX4_addTaking_6 (by decide) (fun _ => ?_) (fun _ => ?_)
  · refine j_aload_n 12 0 dX4_addTaking_12 rfl rfl ?_
    refine j_getr (c2 := 30) (n2 := 0) 13 13 nX4_addTaking_X4 rfl (by decide) (prs_mem (by decide) (by decide)) (by decide) (by decide) wX4_addTaking_f43 (Or.inl rfl) rfl rfl rfl dX4_addTaking_13 ?_
    refine j_aload_n 16 0 dX4_addTaking_16 rfl rfl ?_
    refine j_geti 17 16 nX4_addTaking_X4 rfl (by decide) (prs_mem (by decide) (by decide)) (by decide) (by decide) wX4_addTaking_f81 (Or.inl rfl) rfl dX4_addTaking_17 ?_
    refine j_iload_n 20 1 dX4_addTaking_20 rfl rfl ?_
    refine j_iast (c := 30) (n := 0) (L := 12) 21 (prs_mem (by decide) (by decide)) (by decide) rfl rfl rfl dX4_addTaking_21 (j_bs (fun S_1 => ?_))
    refine j_aload_n 22 0 dX4_addTaking_22 rfl rfl ?_
    refine j_getr (c2 := 31) (n2 := 0) 23 14 nX4_addTaking_X4 rfl (by decide) (prs_mem (by decide) (by decide)) (by decide) (by decide) wX4_addTaking_f46 (Or.inl rfl) rfl rfl rfl dX4_addTaking_23 ?_
    refine j_aload_n 26 0 dX4_addTaking_26 rfl rfl ?_
    refine j_geti 27 16 nX4_addTaking_X4 rfl (by decide) (prs_mem (by decide) (by decide)) (by decide) (by decide) wX4_addTaking_f81 (Or.inl rfl) rfl dX4_addTaking_27 ?_
    refine j_iload_n 30 2 dX4_addTaking_30 rfl rfl ?_
    refine j_iast (c := 31) (n := 0) (L := 12) 31 (prs_mem (by decide) (by decide)) (by decide) rfl rfl rfl dX4_addTaking_31 (j_bs (fun S_2 => ?_))
    refine j_aload_n 32 0 dX4_addTaking_32 rfl rfl ?_
    refine j_getr (c2 := 32) (n2 := 0) 33 15 nX4_addTaking_X4 rfl (by decide) (prs_mem (by decide) (by decide)) (by decide) (by decide) wX4_addTaking_f49 (Or.inl rfl) rfl rfl rfl dX4_addTaking_33 ?_
    refine j_aload_n 36 0 dX4_addTaking_36 rfl rfl ?_
    refine j_geti 37 16 nX4_addTaking_X4 rfl (by decide) (prs_mem (by decide) (by decide)) (by decide) (by decide) wX4_addTaking_f81 (Or.inl rfl) rfl dX4_addTaking_37 ?_
    refine j_iload_n 40 3 dX4_addTaking_40 rfl rfl ?_
    refine j_iast (c := 32) (n := 0) (L := 12) 41 (prs_mem (by decide) (by decide)) (by decide) rfl rfl rfl dX4_addTaking_41 (j_bs (fun S_3 => ?_))
    refine j_aload_n 42 0 dX4_addTaking_42 rfl rfl ?_
    refine j_dup 43 dX4_addTaking_43 rfl ?_
    refine j_geti 44 16 nX4_addTaking_X4 rfl (by decide) (prs_mem (by decide) (by decide)) (by decide) (by decide) wX4_addTaking_f81 (Or.inl rfl) rfl dX4_addTaking_44 ?_
    refine j_iconst (v := 1) 47 dX4_addTaking_47 (by decide) ?_
    refine j_iadd 48 dX4_addTaking_48 ?_
    refine j_puti 49 16 nX4_addTaking_X4 rfl (by decide) (prs_mem (by decide) (by decide)) (by decide) (by decide) wX4_addTaking_f81 (Or.inl rfl) tyX4 tyX4_ok nmX4 rfl (by decide) rfl dX4_addTaking_49 (j_bs (fun S_4 => ?_))
    refine j_aload_n 52 0 dX4_addTaking_52 rfl rfl ?_
    refine j_geti 53 16 nX4_addTaking_X4 rfl (by decide) (prs_mem (by decide) (by decide)) (by decide) (by decide) wX4_addTaking_f81 (Or.inl rfl) rfl dX4_addTaking_53 ?_
    refine j_iconst (v := 1) 56 dX4_addTaking_56 (by decide) ?_
    refine j_isub 57 dX4_addTaking_57 ?_
    exact j_iret 58 rfl dX4_addTaking_58
  · refine j_bipush (v := (-3)) 9 dX4_addTaking_9 (by decide) ?_
    exact j_iret 11 rfl dX4_addTaking_11
set_option maxRecDepth 100000 in
set_option maxHeartbeats 4000000 in
theorem kX4_addTaking {ad : Nat → Nat → Nat} (S : St) (p1 : Int32) (p2 : Int32) (p3 : Int32) : ∀ b, fX4_addTaking S p1 p2 p3 = some b → ∀ l dC dI cy, CT l dC dI cy ad yX4_addTaking wsX4_addTaking 0 0 [.ref (ad 4 0), .int p1, .int p2, .int p3] S (some (.int b.1)) b.2 :=
  fun b hb l dC dI cy => ct_of (l := l) (dC := dC) (dI := dI) (cy := cy) outei (by decide) rfl (Nat.le_of_ble_eq_true rfl) rfl (fun X γ => tX4_addTaking X γ S p1 p2 p3) b hb
-- X4_wrongedBy
theorem nX4_wrongedBy_X4 : ∀ w ∈ u_ws RX4 TX4 17, w ∈ wsX4_wrongedBy := by decide +kernel
theorem wX4_wrongedBy_f43 : Cond.fieldLink RX4 43 "TwoTongues$Land" "takenBlock" "[I" ∈ wsX4_wrongedBy := by decide +kernel
theorem wX4_wrongedBy_f49 : Cond.fieldLink RX4 49 "TwoTongues$Land" "takenIn" "[I" ∈ wsX4_wrongedBy := by decide +kernel
theorem wX4_wrongedBy_f46 : Cond.fieldLink RX4 46 "TwoTongues$Land" "taker" "[I" ∈ wsX4_wrongedBy := by decide +kernel
set_option maxRecDepth 100000 in
set_option maxHeartbeats 4000000 in
theorem tX4_wrongedBy_j41 {ad : Nat → Nat → Nat} (X : Ctx) (γ : Nat → Nat) (F : Nat) (S : St) (x1 : Int32) (s0 : Int32) (s1 : Int32)   : JJ X ad γ (RQm X ad 3 72 (outpi S)) (fcm (outpi S)) 3 72 cX4_wrongedBy 5 RX4 wsX4_wrongedBy (some .int) (fX4_wrongedBy_j41 F S x1 s0 s1) S 41 [(0, .ref (ad 4 0)), (1, .int x1)] [.int s0, .int s1] := by
  unfold fX4_wrongedBy_j41
  refine j_ior 41 dX4_wrongedBy_41 ?_
  refine j_bndi (fun x4_4 => ?_)
  refine j_istore (lv2 := [(4, .int x4_4), (0, .ref (ad 4 0)), (1, .int x1)]) 42 dX4_wrongedBy_42 (by decide) rfl ?_
  refine j_iload 44 0 dX4_wrongedBy_44 rfl ?_
  refine j_iconst (v := 1) 46 dX4_wrongedBy_46 (by decide) ?_
  refine j_aload_n 47 1 dX4_wrongedBy_47 rfl rfl ?_
  refine j_getr (c2 := 31) (n2 := 0) 48 14 nX4_wrongedBy_X4 rfl (by decide) (prs_mem (by decide) (by decide)) (by decide) (by decide) wX4_wrongedBy_f46 (Or.inl rfl) rfl rfl rfl dX4_wrongedBy_48 ?_
  refine j_iload_n 51 2 dX4_wrongedBy_51 rfl rfl ?_
  refine j_iald (c := 31) (n := 0) (L := 12) 52 (prs_mem (by decide) (by decide)) (by decide) rfl rfl rfl dX4_wrongedBy_52 ?_
  refine j_ishl 53 dX4_wrongedBy_53 ?_
  refine j_iconst (v := (-1)) 54 dX4_wrongedBy_54 (by decide) ?_
  refine j_ixor 55 dX4_wrongedBy_55 ?_
  refine j_iand 56 dX4_wrongedBy_56 ?_
  exact j_iret 57 rfl dX4_wrongedBy_57
set_option maxRecDepth 100000 in
set_option maxHeartbeats 4000000 in
theorem tX4_wrongedBy {ad : Nat → Nat → Nat} (X : Ctx) (γ : Nat → Nat) (F : Nat) (S : St) (p1 : Int32) : JJ X ad γ (RQm X ad 3 72 (outpi S)) (fcm (outpi S)) 3 72 cX4_wrongedBy 5 RX4 wsX4_wrongedBy (some .int) (fX4_wrongedBy F S p1) S 0 [(0, .ref (ad 4 0)), (1, .int p1)] [] := by
  unfold fX4_wrongedBy
  refine j_aload_n 0 0 dX4_wrongedBy_0 rfl rfl ?_
  refine j_getr (c2 := 30) (n2 := 0) 1 13 nX4_wrongedBy_X4 rfl (by decide) (prs_mem (by decide) (by decide)) (by decide) (by decide) wX4_wrongedBy_f43 (Or.inl rfl) rfl rfl rfl dX4_wrongedBy_1 ?_
  refine j_iload_n 4 1 dX4_wrongedBy_4 rfl rfl ?_
  refine j_iald (c := 30) (n := 0) (L := 12) 5 (prs_mem (by decide) (by decide)) (by decide) rfl rfl rfl dX4_wrongedBy_5 ?_
  refine j_bndi (fun x2_1 => ?_)
  refine j_istore_n (lv2 := [(2, .int x2_1), (0, .ref (ad 4 0)), (1, .int p1)]) 6 dX4_wrongedBy_6 rfl (by decide) rfl ?_
  refine j_aload_n 7 1 dX4_wrongedBy_7 rfl rfl ?_
  refine j_iload_n 8 0 dX4_wrongedBy_8 rfl rfl ?_
  refine j_aload_n 9 1 dX4_wrongedBy_9 rfl rfl ?_
  refine j_getr (c2 := 32) (n2 := 0) 10 15 nX4_wrongedBy_X4 rfl (by decide) (prs_mem (by decide) (by decide)) (by decide) (by decide) wX4_wrongedBy_f49 (Or.inl rfl) rfl rfl rfl dX4_wrongedBy_10 ?_
  refine j_iload_n 13 2 dX4_wrongedBy_13 rfl rfl ?_
  refine j_iald (c := 32) (n := 0) (L := 12) 14 (prs_mem (by decide) (by decide)) (by decide) rfl rfl rfl dX4_wrongedBy_14 ?_
  refine j_callV_pi 15 rfl (by decide) (prs_mem (by decide) (by decide))  [.int x2_1, .int (gA S 32 0 p1.toNatClampNeg)] [] gX4_wrongedBy_X4_ownerOf rfl eX4_ownerOf ⟨Nat.le_of_ble_eq_true rfl, Nat.le_of_ble_eq_true rfl⟩ rfl rfl (Nat.le_of_ble_eq_true rfl) dX4_wrongedBy_15 (kX4_ownerOf F S x2_1 (gA S 32 0 p1.toNatClampNeg)) (fun b_2 γ => ?_)
  refine j_istore_n (lv2 := [(3, .int b_2), (2, .int x2_1), (0, .ref (ad 4 0)), (1, .int p1)]) 18 dX4_wrongedBy_18 rfl (by decide) rfl ?_
  refine j_aload_n 19 2 dX4_wrongedBy_19 rfl rfl ?_
  refine j_iload_n 20 1 dX4_wrongedBy_20 rfl rfl ?_
  refine j_aload_n 21 2 dX4_wrongedBy_21 rfl rfl ?_
  refine j_getr (c2 := 32) (n2 := 0) 22 15 nX4_wrongedBy_X4 rfl (by decide) (prs_mem (by decide) (by decide)) (by decide) (by decide) wX4_wrongedBy_f49 (Or.inl rfl) rfl rfl rfl dX4_wrongedBy_22 ?_
  refine j_iload_n 25 3 dX4_wrongedBy_25 rfl rfl ?_
  refine j_iald (c := 32) (n := 0) (L := 12) 26 (prs_mem (by decide) (by decide)) (by decide) rfl rfl rfl dX4_wrongedBy_26 ?_
  refine j_callV_pi 27 rfl (by decide) (prs_mem (by decide) (by decide))  [.int x2_1, .int (gA S 32 0 p1.toNatClampNeg)] [] gX4_wrongedBy_X4_usersOf rfl eX4_usersOf ⟨Nat.le_of_ble_eq_true rfl, Nat.le_of_ble_eq_true rfl⟩ rfl rfl (Nat.le_of_ble_eq_true rfl) dX4_wrongedBy_27 (kX4_usersOf F S x2_1 (gA S 32 0 p1.toNatClampNeg)) (fun b_3 γ => ?_)
  refine j_iload_n 30 0 dX4_wrongedBy_30 rfl rfl ?_
  refine j_if_ge 31 38 dX4_wrongedBy_31 (by decide) (fun _ => ?_) (fun _ => ?_)
  · refine j_iconst (v := 1) 38 dX4_wrongedBy_38 (by decide) ?_
    refine j_iload_n 39 0 dX4_wrongedBy_39 rfl rfl ?_
    refine j_ishl 40 dX4_wrongedBy_40 ?_
    refine j_sub [2, 3] rfl ?_
    exact tX4_wrongedBy_j41 X _ F S p1 ((1 : Int32) <<< (b_2 &&& 31)) b_3
  · refine j_iconst (v := 0) 34 dX4_wrongedBy_34 (by decide) ?_
    refine j_goto 35 41 dX4_wrongedBy_35 (by decide) ?_
    refine j_sub [2, 3] rfl ?_
    exact tX4_wrongedBy_j41 X _ F S p1 0 b_3
set_option maxRecDepth 100000 in
set_option maxHeartbeats 4000000 in
theorem kX4_wrongedBy {ad : Nat → Nat → Nat} (F : Nat) (S : St) (p1 : Int32) : ∀ b, fX4_wrongedBy F S p1 = some b → ∀ l dC dI cy, CT l dC dI cy ad yX4_wrongedBy wsX4_wrongedBy 3 72 [.ref (ad 4 0), .int p1] S (some (.int b)) S :=
  fun b hb l dC dI cy => ct_of (l := l) (dC := dC) (dI := dI) (cy := cy) (outpi S) (by decide) rfl (Nat.le_of_ble_eq_true rfl) rfl (fun X γ => tX4_wrongedBy X γ F S p1) b hb
-- X4_wrongedByAll
theorem nX4_wrongedByAll_X4 : ∀ w ∈ u_ws RX4 TX4 17, w ∈ wsX4_wrongedByAll := by decide +kernel
theorem wX4_wrongedByAll_f81 : Cond.fieldLink RX4 81 "TwoTongues$Land" "takings" "I" ∈ wsX4_wrongedByAll := by decide +kernel
theorem wX4_wrongedByAll_f43 : Cond.fieldLink RX4 43 "TwoTongues$Land" "takenBlock" "[I" ∈ wsX4_wrongedByAll := by decide +kernel
set_option maxRecDepth 100000 in
set_option maxHeartbeats 4000000 in
theorem tX4_wrongedByAll_L4 {ad : Nat → Nat → Nat} (X : Ctx) (F : Nat) (S : St) (x1 : Int32)   : ∀ (n : Nat) (γ : Nat → Nat) (x2 : Int32) (x3 : Int32), JJ X ad γ (RQm X ad 4 96 (outpi S)) (fcm (outpi S)) 4 96 cX4_wrongedByAll 4 RX4 wsX4_wrongedByAll (some .int) (fX4_wrongedByAll_L4 F S x1 n x2 x3) S 4 [(0, .ref (ad 4 0)), (1, .int x1), (2, .int x2), (3, .int x3)] [] := by
  intro n
  induction n with
  | zero => intro _ _ _; exact j_none
  | succ n ih =>
    intro γ x2 x3
    rw [show fX4_wrongedByAll_L4 F S x1 (n + 1) x2 x3 = fX4_wrongedByAll_b4 F S x1 (fX4_wrongedByAll_L4 F S x1 n) x2 x3 from rfl]
    unfold fX4_wrongedByAll_b4
    refine j_iload_n 4 3 dX4_wrongedByAll_4 rfl rfl ?_
    refine j_aload_n 5 0 dX4_wrongedByAll_5 rfl rfl ?_
    refine j_geti 6 16 nX4_wrongedByAll_X4 rfl (by decide) (prs_mem (by decide) (by decide)) (by decide) (by decide) wX4_wrongedByAll_f81 (Or.inl rfl) rfl dX4_wrongedByAll_6 ?_
    refine j_icmp_ge 9 36 dX4_wrongedByAll_9 (by decide) (fun _ => ?_) (fun _ => ?_)
    · refine j_iload_n 36 2 dX4_wrongedByAll_36 rfl rfl ?_
      exact j_iret 37 rfl dX4_wrongedByAll_37
    · refine j_aload_n 12 0 dX4_wrongedByAll_12 rfl rfl ?_
      refine j_getr (c2 := 30) (n2 := 0) 13 13 nX4_wrongedByAll_X4 rfl (by decide) (prs_mem (by decide) (by decide)) (by decide) (by decide) wX4_wrongedByAll_f43 (Or.inl rfl) rfl rfl rfl dX4_wrongedByAll_13 ?_
      refine j_iload_n 16 3 dX4_wrongedByAll_16 rfl rfl ?_
      refine j_iald (c := 30) (n := 0) (L := 12) 17 (prs_mem (by decide) (by decide)) (by decide) rfl rfl rfl dX4_wrongedByAll_17 ?_
      refine j_iload_n 18 1 dX4_wrongedByAll_18 rfl rfl ?_
      refine j_icmp_ne 19 30 dX4_wrongedByAll_19 (by decide) (fun _ => ?_) (fun _ => ?_)
      · refine j_iinc (v := x3 + 1) (lv2 := [(3, .int (x3 + 1)), (0, .ref (ad 4 0)), (1, .int x1), (2, .int x2)]) 30 3 dX4_wrongedByAll_30 rfl rfl (by decide) rfl ?_
        refine j_goto 33 4 dX4_wrongedByAll_33 (by decide) ?_
        refine j_sub [1, 2, 3, 0] rfl ?_
        exact ih _ x2 (x3 + 1)
      · refine j_iload_n 22 2 dX4_wrongedByAll_22 rfl rfl ?_
        refine j_aload_n 23 0 dX4_wrongedByAll_23 rfl rfl ?_
        refine j_iload_n 24 3 dX4_wrongedByAll_24 rfl rfl ?_
        refine j_callV_pi 25 rfl (by decide) (prs_mem (by decide) (by decide))  [.int x3] [.int x2] gX4_wrongedByAll_X4_wrongedBy rfl eX4_wrongedBy ⟨Nat.le_of_ble_eq_true rfl, Nat.le_of_ble_eq_true rfl⟩ rfl rfl (Nat.le_of_ble_eq_true rfl) dX4_wrongedByAll_25 (kX4_wrongedBy F S x3) (fun b_1 γ => ?_)
        refine j_ior 28 dX4_wrongedByAll_28 ?_
        refine j_bndi (fun x2_2 => ?_)
        refine j_istore_n (lv2 := [(2, .int x2_2), (0, .ref (ad 4 0)), (1, .int x1), (3, .int x3)]) 29 dX4_wrongedByAll_29 rfl (by decide) rfl ?_
        refine j_iinc (v := x3 + 1) (lv2 := [(3, .int (x3 + 1)), (2, .int x2_2), (0, .ref (ad 4 0)), (1, .int x1)]) 30 3 dX4_wrongedByAll_30 rfl rfl (by decide) rfl ?_
        refine j_goto 33 4 dX4_wrongedByAll_33 (by decide) ?_
        refine j_sub [2, 3, 1, 0] rfl ?_
        exact ih _ x2_2 (x3 + 1)
set_option maxRecDepth 100000 in
set_option maxHeartbeats 4000000 in
theorem tX4_wrongedByAll {ad : Nat → Nat → Nat} (X : Ctx) (γ : Nat → Nat) (F : Nat) (S : St) (p1 : Int32) : JJ X ad γ (RQm X ad 4 96 (outpi S)) (fcm (outpi S)) 4 96 cX4_wrongedByAll 4 RX4 wsX4_wrongedByAll (some .int) (fX4_wrongedByAll F S p1) S 0 [(0, .ref (ad 4 0)), (1, .int p1)] [] := by
  unfold fX4_wrongedByAll
  refine j_iconst (v := 0) 0 dX4_wrongedByAll_0 (by decide) ?_
  refine j_istore_n (lv2 := [(2, .int 0), (0, .ref (ad 4 0)), (1, .int p1)]) 1 dX4_wrongedByAll_1 rfl (by decide) rfl ?_
  refine j_iconst (v := 0) 2 dX4_wrongedByAll_2 (by decide) ?_
  refine j_istore_n (lv2 := [(3, .int 0), (2, .int 0), (0, .ref (ad 4 0)), (1, .int p1)]) 3 dX4_wrongedByAll_3 rfl (by decide) rfl ?_
  refine j_sub [2, 3, 1, 0] rfl ?_
  exact tX4_wrongedByAll_L4 X F S p1 F _ 0 0
set_option maxRecDepth 100000 in
set_option maxHeartbeats 4000000 in
theorem kX4_wrongedByAll {ad : Nat → Nat → Nat} (F : Nat) (S : St) (p1 : Int32) : ∀ b, fX4_wrongedByAll F S p1 = some b → ∀ l dC dI cy, CT l dC dI cy ad yX4_wrongedByAll wsX4_wrongedByAll 4 96 [.ref (ad 4 0), .int p1] S (some (.int b)) S :=
  fun b hb l dC dI cy => ct_of (l := l) (dC := dC) (dI := dI) (cy := cy) (outpi S) (by decide) rfl (Nat.le_of_ble_eq_true rfl) rfl (fun X γ => tX4_wrongedByAll X γ F S p1) b hb
-- X4_worthLeft
theorem nX4_worthLeft_X4 : ∀ w ∈ u_ws RX4 TX4 17, w ∈ wsX4_worthLeft := by decide +kernel
theorem wX4_worthLeft_f52 : Cond.fieldLink RX4 52 "TwoTongues$Land" "size" "I" ∈ wsX4_worthLeft := by decide +kernel
theorem wX4_worthLeft_stX11_hasBit : Cond.static yX11_hasBit ∈ wsX4_worthLeft := by decide +kernel
theorem wX4_worthLeft_inX11_hasBit : Cond.initialized yX11_hasBit.cls ∈ wsX4_worthLeft := by decide +kernel
theorem wX4_worthLeft_f9 : Cond.fieldLink RX4 9 "TwoTongues$Land" "worth" "[I" ∈ wsX4_worthLeft := by decide +kernel
set_option maxRecDepth 100000 in
set_option maxHeartbeats 4000000 in
theorem tX4_worthLeft_j49 {ad : Nat → Nat → Nat} (X : Ctx) (γ : Nat → Nat) (F : Nat) (S : St) (x1 : Int32) (x2 : Int32) (x3 : Int32) (x4 : Int32) (x5 : Int32) (s0 : Int32) (rec : Int32 → Int32 → Option Int32)  (ih : ∀ (γ : Nat → Nat) (x4 : Int32) (x5 : Int32), JJ X ad γ (RQm X ad 5 119 (outpi S)) (fcm (outpi S)) 5 119 cX4_worthLeft 8 RX4 wsX4_worthLeft (some .int) (rec x4 x5) S 6 [(0, .ref (ad 4 0)), (1, .int x1), (2, .int x2), (3, .int x3), (4, .int x4), (5, .int x5)] []) : JJ X ad γ (RQm X ad 5 119 (outpi S)) (fcm (outpi S)) 5 119 cX4_worthLeft 8 RX4 wsX4_worthLeft (some .int) (fX4_worthLeft_j49 F S x1 x2 x3 x4 x5 s0 rec) S 49 [(0, .ref (ad 4 0)), (1, .int x1), (2, .int x2), (3, .int x3), (4, .int x4), (5, .int x5)] [.int s0] := by
  unfold fX4_worthLeft_j49
  refine j_istore (lv2 := [(7, .int s0), (0, .ref (ad 4 0)), (1, .int x1), (2, .int x2), (3, .int x3), (4, .int x4), (5, .int x5)]) 49 dX4_worthLeft_49 (by decide) rfl ?_
  refine j_iload 51 0 dX4_worthLeft_51 rfl ?_
  refine j_if_eq 53 78 dX4_worthLeft_53 (by decide) (fun _ => ?_) (fun _ => ?_)
  · refine j_iinc (v := x5 + 1) (lv2 := [(5, .int (x5 + 1)), (7, .int s0), (0, .ref (ad 4 0)), (1, .int x1), (2, .int x2), (3, .int x3), (4, .int x4)]) 78 6 dX4_worthLeft_78 rfl rfl (by decide) rfl ?_
    refine j_goto 81 6 dX4_worthLeft_81 (by decide) ?_
    refine j_sub [2, 3, 4, 5, 6, 0] rfl ?_
    exact ih _ x4 (x5 + 1)
  · refine j_aload_n 56 1 dX4_worthLeft_56 rfl rfl ?_
    refine j_iload 57 6 dX4_worthLeft_57 rfl ?_
    refine j_iload_n 59 3 dX4_worthLeft_59 rfl rfl ?_
    refine j_callV_pi 60 rfl (by decide) (prs_mem (by decide) (by decide))  [.int x5, .int x2] [] gX4_worthLeft_X4_ownerOf rfl eX4_ownerOf ⟨Nat.le_of_ble_eq_true rfl, Nat.le_of_ble_eq_true rfl⟩ rfl rfl (Nat.le_of_ble_eq_true rfl) dX4_worthLeft_60 (kX4_ownerOf F S x5 x2) (fun b_3 γ => ?_)
    refine j_if_ge 63 78 dX4_worthLeft_63 (by decide) (fun _ => ?_) (fun _ => ?_)
    · refine j_iinc (v := x5 + 1) (lv2 := [(5, .int (x5 + 1)), (7, .int s0), (0, .ref (ad 4 0)), (1, .int x1), (2, .int x2), (3, .int x3), (4, .int x4)]) 78 6 dX4_worthLeft_78 rfl rfl (by decide) rfl ?_
      refine j_goto 81 6 dX4_worthLeft_81 (by decide) ?_
      refine j_sub [2, 3, 4, 5, 6, 0] rfl ?_
      exact ih _ x4 (x5 + 1)
    · refine j_iload 66 5 dX4_worthLeft_66 rfl ?_
      refine j_aload_n 68 1 dX4_worthLeft_68 rfl rfl ?_
      refine j_getr (c2 := 20) (n2 := 0) 69 0 nX4_worthLeft_X4 rfl (by decide) (prs_mem (by decide) (by decide)) (by decide) (by decide) wX4_worthLeft_f9 (Or.inl rfl) rfl rfl rfl dX4_worthLeft_69 ?_
      refine j_iload 72 6 dX4_worthLeft_72 rfl ?_
      refine j_iald (c := 20) (n := 0) (L := 12) 74 (prs_mem (by decide) (by decide)) (by decide) rfl rfl rfl dX4_worthLeft_74 ?_
      refine j_iadd 75 dX4_worthLeft_75 ?_
      refine j_bndi (fun x4_4 => ?_)
      refine j_istore (lv2 := [(4, .int x4_4), (7, .int s0), (0, .ref (ad 4 0)), (1, .int x1), (2, .int x2), (3, .int x3), (5, .int x5)]) 76 dX4_worthLeft_76 (by decide) rfl ?_
      refine j_iinc (v := x5 + 1) (lv2 := [(5, .int (x5 + 1)), (4, .int x4_4), (7, .int s0), (0, .ref (ad 4 0)), (1, .int x1), (2, .int x2), (3, .int x3)]) 78 6 dX4_worthLeft_78 rfl rfl (by decide) rfl ?_
      refine j_goto 81 6 dX4_worthLeft_81 (by decide) ?_
      refine j_sub [3, 4, 5, 6, 1, 0] rfl ?_
      exact ih _ x4_4 (x5 + 1)
set_option maxRecDepth 100000 in
set_option maxHeartbeats 4000000 in
theorem tX4_worthLeft_L6 {ad : Nat → Nat → Nat} (X : Ctx) (F : Nat) (S : St) (x1 : Int32) (x2 : Int32) (x3 : Int32)   : ∀ (n : Nat) (γ : Nat → Nat) (x4 : Int32) (x5 : Int32), JJ X ad γ (RQm X ad 5 119 (outpi S)) (fcm (outpi S)) 5 119 cX4_worthLeft 8 RX4 wsX4_worthLeft (some .int) (fX4_worthLeft_L6 F S x1 x2 x3 n x4 x5) S 6 [(0, .ref (ad 4 0)), (1, .int x1), (2, .int x2), (3, .int x3), (4, .int x4), (5, .int x5)] [] := by
  intro n
  induction n with
  | zero => intro _ _ _; exact j_none
  | succ n ih =>
    intro γ x4 x5
    rw [show fX4_worthLeft_L6 F S x1 x2 x3 (n + 1) x4 x5 = fX4_worthLeft_b6 F S x1 x2 x3 (fX4_worthLeft_L6 F S x1 x2 x3 n) x4 x5 from rfl]
    unfold fX4_worthLeft_b6
    refine j_iload 6 5 dX4_worthLeft_6 rfl ?_
    refine j_aload_n 8 0 dX4_worthLeft_8 rfl rfl ?_
    refine j_geti 9 3 nX4_worthLeft_X4 rfl (by decide) (prs_mem (by decide) (by decide)) (by decide) (by decide) wX4_worthLeft_f52 (Or.inl rfl) rfl dX4_worthLeft_9 ?_
    refine j_icmp_ge 12 84 dX4_worthLeft_12 (by decide) (fun _ => ?_) (fun _ => ?_)
    · refine j_iload 84 4 dX4_worthLeft_84 rfl ?_
      exact j_iret 86 rfl dX4_worthLeft_86
    · refine j_aload_n 15 0 dX4_worthLeft_15 rfl rfl ?_
      refine j_iload 16 5 dX4_worthLeft_16 rfl ?_
      refine j_callV_pi 18 rfl (by decide) (prs_mem (by decide) (by decide))  [.int x5] [] gX4_worthLeft_X4_wrongedByAll rfl eX4_wrongedByAll ⟨Nat.le_of_ble_eq_true rfl, Nat.le_of_ble_eq_true rfl⟩ rfl rfl (Nat.le_of_ble_eq_true rfl) dX4_worthLeft_18 (kX4_wrongedByAll F S x5) (fun b_1 γ => ?_)
      refine j_istore (lv2 := [(6, .int b_1), (0, .ref (ad 4 0)), (1, .int x1), (2, .int x2), (3, .int x3), (4, .int x4), (5, .int x5)]) 21 dX4_worthLeft_21 (by decide) rfl ?_
      refine j_iload_n 23 4 dX4_worthLeft_23 rfl rfl ?_
      refine j_if_eq 24 43 dX4_worthLeft_24 (by decide) (fun _ => ?_) (fun _ => ?_)
      · refine j_iload 43 0 dX4_worthLeft_43 rfl ?_
        refine j_iload_n 45 2 dX4_worthLeft_45 rfl rfl ?_
        refine j_callSN_pi 46  [.int b_1, .int x1] [] (host := "TwoTongues") gX4_worthLeft_X11_hasBit_n77 rfl (by decide +kernel) wX4_worthLeft_stX11_hasBit wX4_worthLeft_inX11_hasBit eX11_hasBit ⟨Nat.le_of_ble_eq_true rfl, Nat.le_of_ble_eq_true rfl⟩ rfl rfl (Nat.le_of_ble_eq_true rfl) dX4_worthLeft_46 (kX11_hasBit S b_1 x1) (fun b_2 γ => ?_)
        refine j_sub [1, 2, 3, 4, 5, 6] rfl ?_
        exact tX4_worthLeft_j49 X _ F S x1 x2 x3 x4 x5 b_2 _ ih
      · refine j_iload 27 0 dX4_worthLeft_27 rfl ?_
        refine j_iconst (v := 1) 29 dX4_worthLeft_29 (by decide) ?_
        refine j_iload_n 30 2 dX4_worthLeft_30 rfl rfl ?_
        refine j_ishl 31 dX4_worthLeft_31 ?_
        refine j_icmp_ne 32 39 dX4_worthLeft_32 (by decide) (fun _ => ?_) (fun _ => ?_)
        · refine j_iconst (v := 0) 39 dX4_worthLeft_39 (by decide) ?_
          refine j_goto 40 49 dX4_worthLeft_40 (by decide) ?_
          refine j_sub [1, 2, 3, 4, 5, 6] rfl ?_
          exact tX4_worthLeft_j49 X _ F S x1 x2 x3 x4 x5 0 _ ih
        · refine j_iconst (v := 1) 35 dX4_worthLeft_35 (by decide) ?_
          refine j_goto 36 49 dX4_worthLeft_36 (by decide) ?_
          refine j_sub [1, 2, 3, 4, 5, 6] rfl ?_
          exact tX4_worthLeft_j49 X _ F S x1 x2 x3 x4 x5 1 _ ih
set_option maxRecDepth 100000 in
set_option maxHeartbeats 4000000 in
theorem tX4_worthLeft {ad : Nat → Nat → Nat} (X : Ctx) (γ : Nat → Nat) (F : Nat) (S : St) (p1 : Int32) (p2 : Int32) (p3 : Int32) : JJ X ad γ (RQm X ad 5 119 (outpi S)) (fcm (outpi S)) 5 119 cX4_worthLeft 8 RX4 wsX4_worthLeft (some .int) (fX4_worthLeft F S p1 p2 p3) S 0 [(0, .ref (ad 4 0)), (1, .int p1), (2, .int p2), (3, .int p3)] [] := by
  unfold fX4_worthLeft
  refine j_iconst (v := 0) 0 dX4_worthLeft_0 (by decide) ?_
  refine j_istore (lv2 := [(4, .int 0), (0, .ref (ad 4 0)), (1, .int p1), (2, .int p2), (3, .int p3)]) 1 dX4_worthLeft_1 (by decide) rfl ?_
  refine j_iconst (v := 0) 3 dX4_worthLeft_3 (by decide) ?_
  refine j_istore (lv2 := [(5, .int 0), (4, .int 0), (0, .ref (ad 4 0)), (1, .int p1), (2, .int p2), (3, .int p3)]) 4 dX4_worthLeft_4 (by decide) rfl ?_
  refine j_sub [2, 3, 4, 5, 1, 0] rfl ?_
  exact tX4_worthLeft_L6 X F S p1 p2 p3 F _ 0 0
set_option maxRecDepth 100000 in
set_option maxHeartbeats 4000000 in
theorem kX4_worthLeft {ad : Nat → Nat → Nat} (F : Nat) (S : St) (p1 : Int32) (p2 : Int32) (p3 : Int32) : ∀ b, fX4_worthLeft F S p1 p2 p3 = some b → ∀ l dC dI cy, CT l dC dI cy ad yX4_worthLeft wsX4_worthLeft 5 119 [.ref (ad 4 0), .int p1, .int p2, .int p3] S (some (.int b)) S :=
  fun b hb l dC dI cy => ct_of (l := l) (dC := dC) (dI := dI) (cy := cy) (outpi S) (by decide) rfl (Nat.le_of_ble_eq_true rfl) rfl (fun X γ => tX4_worthLeft X γ F S p1 p2 p3) b hb
-- X6_lengthOf
theorem nX6_lengthOf_X0 : ∀ w ∈ u_ws RX0 TX0 7, w ∈ wsX6_lengthOf := by decide +kernel
theorem nX6_lengthOf_X6 : ∀ w ∈ u_ws RX6 TX6 4, w ∈ wsX6_lengthOf := by decide +kernel
theorem wX6_lengthOf_f23 : Cond.fieldLink RX6 23 "TwoTongues$Payments" "claims" "LTwoTongues$Claims;" ∈ wsX6_lengthOf := by decide +kernel
theorem wX6_lengthOf_s23 : Cond.sameField "TwoTongues$Payments" "TwoTongues$Order" "claims" "LTwoTongues$Claims;" ∈ wsX6_lengthOf := by decide +kernel
theorem wX6_lengthOf_f27 : Cond.fieldLink RX6 27 "TwoTongues$Claims" "asked" "[I" ∈ wsX6_lengthOf := by decide +kernel
set_option maxRecDepth 100000 in
set_option maxHeartbeats 4000000 in
theorem tX6_lengthOf {ad : Nat → Nat → Nat} (X : Ctx) (γ : Nat → Nat) (S : St) (p1 : Int32) : JJ X ad γ (RQm X ad 0 0 (outpi S)) (fcm (outpi S)) 0 0 cX6_lengthOf 2 RX6 wsX6_lengthOf (some .int) (fX6_lengthOf S p1) S 0 [(0, .ref (ad 5 0)), (1, .int p1)] [] := by
  unfold fX6_lengthOf
  refine j_aload_n 0 0 dX6_lengthOf_0 rfl rfl ?_
  refine j_getr (c2 := 0) (n2 := 0) 1 0 nX6_lengthOf_X6 rfl (by decide) (prs_mem (by decide) (by decide)) (by decide) (by decide) wX6_lengthOf_f23 (Or.inr wX6_lengthOf_s23) rfl rfl rfl dX6_lengthOf_1 ?_
  refine j_getr (c2 := 17) (n2 := 0) 4 5 nX6_lengthOf_X0 rfl (by decide) (prs_mem (by decide) (by decide)) (by decide) (by decide) wX6_lengthOf_f27 (Or.inl rfl) rfl rfl rfl dX6_lengthOf_4 ?_
  refine j_iload_n 7 1 dX6_lengthOf_7 rfl rfl ?_
  refine j_iald (c := 17) (n := 0) (L := 9) 8 (prs_mem (by decide) (by decide)) (by decide) rfl rfl rfl dX6_lengthOf_8 ?_
  exact j_iret 9 rfl dX6_lengthOf_9
set_option maxRecDepth 100000 in
set_option maxHeartbeats 4000000 in
theorem kX6_lengthOf {ad : Nat → Nat → Nat} (S : St) (p1 : Int32) : ∀ b, fX6_lengthOf S p1 = some b → ∀ l dC dI cy, CT l dC dI cy ad yX6_lengthOf wsX6_lengthOf 0 0 [.ref (ad 5 0), .int p1] S (some (.int b)) S :=
  fun b hb l dC dI cy => ct_of (l := l) (dC := dC) (dI := dI) (cy := cy) (outpi S) (by decide) rfl (Nat.le_of_ble_eq_true rfl) rfl (fun X γ => tX6_lengthOf X γ S p1) b hb
-- X5_lengthOfAll_p
theorem nX5_lengthOfAll_X6 : ∀ w ∈ u_ws RX6 TX6 4, w ∈ wsX5_lengthOfAll := by decide +kernel
set_option maxRecDepth 100000 in
set_option maxHeartbeats 4000000 in
theorem tX5_lengthOfAll_p_L4 {ad : Nat → Nat → Nat} (X : Ctx) (F : Nat) (S : St) (x1 : Int32)   : ∀ (n : Nat) (γ : Nat → Nat) (x2 : Int32) (x3 : Int32), JJ X ad γ (RQm X ad 1 21 (outpi S)) (fcm (outpi S)) 1 21 cX5_lengthOfAll 4 RX5 wsX5_lengthOfAll (some .int) (fX5_lengthOfAll_p_L4 F S x1 n x2 x3) S 4 [(0, .ref (ad 5 0)), (1, .int x1), (2, .int x2), (3, .int x3)] [] := by
  intro n
  induction n with
  | zero => intro _ _ _; exact j_none
  | succ n ih =>
    intro γ x2 x3
    rw [show fX5_lengthOfAll_p_L4 F S x1 (n + 1) x2 x3 = fX5_lengthOfAll_p_b4 F S x1 (fX5_lengthOfAll_p_L4 F S x1 n) x2 x3 from rfl]
    unfold fX5_lengthOfAll_p_b4
    refine j_iload_n 4 3 dX5_lengthOfAll_4 rfl rfl ?_
    refine j_aload_n 5 0 dX5_lengthOfAll_5 rfl rfl ?_
    refine j_getr (c2 := 0) (n2 := 0) 6 0 nX5_lengthOfAll_X6 rfl (by decide) (prs_mem (by decide) (by decide)) (by decide) (by decide) wX5_lengthOfAll_f15 (Or.inl rfl) rfl rfl rfl dX5_lengthOfAll_6 ?_
    refine j_geti 9 6 nX5_lengthOfAll_X0 rfl (by decide) (prs_mem (by decide) (by decide)) (by decide) (by decide) wX5_lengthOfAll_f33 (Or.inl rfl) rfl dX5_lengthOfAll_9 ?_
    refine j_icmp_ge 12 37 dX5_lengthOfAll_12 (by decide) (fun _ => ?_) (fun _ => ?_)
    · refine j_iload_n 37 2 dX5_lengthOfAll_37 rfl rfl ?_
      exact j_iret 38 rfl dX5_lengthOfAll_38
    · refine j_iload_n 15 1 dX5_lengthOfAll_15 rfl rfl ?_
      refine j_iload_n 16 3 dX5_lengthOfAll_16 rfl rfl ?_
      refine j_callSN_pi 17  [.int x1, .int x3] [] (host := "TwoTongues") gX5_lengthOfAll_X11_hasBit_n43 rfl (by decide +kernel) wX5_lengthOfAll_stX11_hasBit wX5_lengthOfAll_inX11_hasBit eX11_hasBit ⟨Nat.le_of_ble_eq_true rfl, Nat.le_of_ble_eq_true rfl⟩ rfl rfl (Nat.le_of_ble_eq_true rfl) dX5_lengthOfAll_17 (kX11_hasBit S x1 x3) (fun b_1 γ => ?_)
      refine j_if_eq 20 31 dX5_lengthOfAll_20 (by decide) (fun _ => ?_) (fun _ => ?_)
      · refine j_iinc (v := x3 + 1) (lv2 := [(3, .int (x3 + 1)), (0, .ref (ad 5 0)), (1, .int x1), (2, .int x2)]) 31 3 dX5_lengthOfAll_31 rfl rfl (by decide) rfl ?_
        refine j_goto 34 4 dX5_lengthOfAll_34 (by decide) ?_
        refine j_sub [1, 2, 3, 0] rfl ?_
        exact ih _ x2 (x3 + 1)
      · refine j_iload_n 23 2 dX5_lengthOfAll_23 rfl rfl ?_
        refine j_aload_n 24 0 dX5_lengthOfAll_24 rfl rfl ?_
        refine j_iload_n 25 3 dX5_lengthOfAll_25 rfl rfl ?_
        refine j_callA_pi 26 rfl (by decide) (prs_mem (by decide) (by decide))  [.int x3] [.int x2] (n := 1) (owner := "TwoTongues$Order") (x := ⟨"TwoTongues$Order", "lengthOf", "(I)I"⟩) gX5_lengthOfAll_X6_lengthOf_u57X6 rfl (by decide +kernel) (by decide +kernel) ⟨Nat.le_of_ble_eq_true rfl, Nat.le_of_ble_eq_true rfl⟩ rfl rfl (Nat.le_of_ble_eq_true rfl) dX5_lengthOfAll_26 (kX6_lengthOf S x3) (fun b_2 γ => ?_)
        refine j_iadd 29 dX5_lengthOfAll_29 ?_
        refine j_bndi (fun x2_3 => ?_)
        refine j_istore_n (lv2 := [(2, .int x2_3), (0, .ref (ad 5 0)), (1, .int x1), (3, .int x3)]) 30 dX5_lengthOfAll_30 rfl (by decide) rfl ?_
        refine j_iinc (v := x3 + 1) (lv2 := [(3, .int (x3 + 1)), (2, .int x2_3), (0, .ref (ad 5 0)), (1, .int x1)]) 31 3 dX5_lengthOfAll_31 rfl rfl (by decide) rfl ?_
        refine j_goto 34 4 dX5_lengthOfAll_34 (by decide) ?_
        refine j_sub [2, 3, 1, 0] rfl ?_
        exact ih _ x2_3 (x3 + 1)
set_option maxRecDepth 100000 in
set_option maxHeartbeats 4000000 in
theorem tX5_lengthOfAll_p {ad : Nat → Nat → Nat} (X : Ctx) (γ : Nat → Nat) (F : Nat) (S : St) (p1 : Int32) : JJ X ad γ (RQm X ad 1 21 (outpi S)) (fcm (outpi S)) 1 21 cX5_lengthOfAll 4 RX5 wsX5_lengthOfAll (some .int) (fX5_lengthOfAll_p F S p1) S 0 [(0, .ref (ad 5 0)), (1, .int p1)] [] := by
  unfold fX5_lengthOfAll_p
  refine j_iconst (v := 0) 0 dX5_lengthOfAll_0 (by decide) ?_
  refine j_istore_n (lv2 := [(2, .int 0), (0, .ref (ad 5 0)), (1, .int p1)]) 1 dX5_lengthOfAll_1 rfl (by decide) rfl ?_
  refine j_iconst (v := 0) 2 dX5_lengthOfAll_2 (by decide) ?_
  refine j_istore_n (lv2 := [(3, .int 0), (2, .int 0), (0, .ref (ad 5 0)), (1, .int p1)]) 3 dX5_lengthOfAll_3 rfl (by decide) rfl ?_
  refine j_sub [2, 3, 1, 0] rfl ?_
  exact tX5_lengthOfAll_p_L4 X F S p1 F _ 0 0
set_option maxRecDepth 100000 in
set_option maxHeartbeats 4000000 in
theorem kX5_lengthOfAll_p {ad : Nat → Nat → Nat} (F : Nat) (S : St) (p1 : Int32) : ∀ b, fX5_lengthOfAll_p F S p1 = some b → ∀ l dC dI cy, CT l dC dI cy ad yX5_lengthOfAll wsX5_lengthOfAll 1 21 [.ref (ad 5 0), .int p1] S (some (.int b)) S :=
  fun b hb l dC dI cy => ct_of (l := l) (dC := dC) (dI := dI) (cy := cy) (outpi S) (by decide) rfl (Nat.le_of_ble_eq_true rfl) rfl (fun X γ => tX5_lengthOfAll_p X γ F S p1) b hb
-- X6_priceOf
theorem nX6_priceOf_X0 : ∀ w ∈ u_ws RX0 TX0 7, w ∈ wsX6_priceOf := by decide +kernel
theorem nX6_priceOf_X6 : ∀ w ∈ u_ws RX6 TX6 4, w ∈ wsX6_priceOf := by decide +kernel
theorem wX6_priceOf_f23 : Cond.fieldLink RX6 23 "TwoTongues$Payments" "claims" "LTwoTongues$Claims;" ∈ wsX6_priceOf := by decide +kernel
theorem wX6_priceOf_s23 : Cond.sameField "TwoTongues$Payments" "TwoTongues$Order" "claims" "LTwoTongues$Claims;" ∈ wsX6_priceOf := by decide +kernel
theorem wX6_priceOf_f33 : Cond.fieldLink RX6 33 "TwoTongues$Claims" "weight" "[I" ∈ wsX6_priceOf := by decide +kernel
theorem wX6_priceOf_f7 : Cond.fieldLink RX6 7 "TwoTongues$Payments" "coin" "I" ∈ wsX6_priceOf := by decide +kernel
set_option maxRecDepth 100000 in
set_option maxHeartbeats 4000000 in
theorem tX6_priceOf {ad : Nat → Nat → Nat} (X : Ctx) (γ : Nat → Nat) (S : St) (p1 : Int32) (p2 : Int32) : JJ X ad γ (RQm X ad 0 0 (outpi S)) (fcm (outpi S)) 0 0 cX6_priceOf 3 RX6 wsX6_priceOf (some .int) (fX6_priceOf S p1 p2) S 0 [(0, .ref (ad 5 0)), (1, .int p1), (2, .int p2)] [] := by
  unfold fX6_priceOf
  refine j_aload_n 0 0 dX6_priceOf_0 rfl rfl ?_
  refine j_getr (c2 := 0) (n2 := 0) 1 0 nX6_priceOf_X6 rfl (by decide) (prs_mem (by decide) (by decide)) (by decide) (by decide) wX6_priceOf_f23 (Or.inr wX6_priceOf_s23) rfl rfl rfl dX6_priceOf_1 ?_
  refine j_getr (c2 := 13) (n2 := 0) 4 1 nX6_priceOf_X0 rfl (by decide) (prs_mem (by decide) (by decide)) (by decide) (by decide) wX6_priceOf_f33 (Or.inl rfl) rfl rfl rfl dX6_priceOf_4 ?_
  refine j_iload_n 7 1 dX6_priceOf_7 rfl rfl ?_
  refine j_iald (c := 13) (n := 0) (L := 9) 8 (prs_mem (by decide) (by decide)) (by decide) rfl rfl rfl dX6_priceOf_8 ?_
  refine j_iload_n 9 2 dX6_priceOf_9 rfl rfl ?_
  refine j_iconst (v := 1) 10 dX6_priceOf_10 (by decide) ?_
  refine j_isub 11 dX6_priceOf_11 ?_
  refine j_aload_n 12 0 dX6_priceOf_12 rfl rfl ?_
  refine j_geti 13 3 nX6_priceOf_X6 rfl (by decide) (prs_mem (by decide) (by decide)) (by decide) (by decide) wX6_priceOf_f7 (Or.inl rfl) rfl dX6_priceOf_13 ?_
  refine j_idiv 16 dX6_priceOf_16 ?_
  refine j_imul 17 dX6_priceOf_17 ?_
  exact j_iret 18 rfl dX6_priceOf_18
set_option maxRecDepth 100000 in
set_option maxHeartbeats 4000000 in
theorem kX6_priceOf {ad : Nat → Nat → Nat} (S : St) (p1 : Int32) (p2 : Int32) : ∀ b, fX6_priceOf S p1 p2 = some b → ∀ l dC dI cy, CT l dC dI cy ad yX6_priceOf wsX6_priceOf 0 0 [.ref (ad 5 0), .int p1, .int p2] S (some (.int b)) S :=
  fun b hb l dC dI cy => ct_of (l := l) (dC := dC) (dI := dI) (cy := cy) (outpi S) (by decide) rfl (Nat.le_of_ble_eq_true rfl) rfl (fun X γ => tX6_priceOf X γ S p1 p2) b hb
-- X5_restWith_p
theorem nX5_restWith_X6 : ∀ w ∈ u_ws RX6 TX6 4, w ∈ wsX5_restWith := by decide +kernel
set_option maxRecDepth 100000 in
set_option maxHeartbeats 4000000 in
theorem tX5_restWith_p {ad : Nat → Nat → Nat} (X : Ctx) (γ : Nat → Nat) (S : St) (p1 : Int32) (p2 : Int32) (p3 : Int32) : JJ X ad γ (RQm X ad 1 22 (outpi S)) (fcm (outpi S)) 1 22 cX5_restWith 4 RX5 wsX5_restWith (some .int) (fX5_restWith_p S p1 p2 p3) S 0 [(0, .ref (ad 5 0)), (1, .int p1), (2, .int p2), (3, .int p3)] [] := by
  unfold fX5_restWith_p
  refine j_aload_n 0 0 dX5_restWith_0 rfl rfl ?_
  refine j_iload_n 1 1 dX5_restWith_1 rfl rfl ?_
  refine j_iload_n 2 3 dX5_restWith_2 rfl rfl ?_
  refine j_aload_n 3 0 dX5_restWith_3 rfl rfl ?_
  refine j_iload_n 4 1 dX5_restWith_4 rfl rfl ?_
  refine j_callA_pi 5 rfl (by decide) (prs_mem (by decide) (by decide))  [.int p1] [.int p3, .int p1, .ref (ad 5 0)] (n := 1) (owner := "TwoTongues$Order") (x := ⟨"TwoTongues$Order", "lengthOf", "(I)I"⟩) gX5_restWith_X6_lengthOf_u57X6 rfl (by decide +kernel) (by decide +kernel) ⟨Nat.le_of_ble_eq_true rfl, Nat.le_of_ble_eq_true rfl⟩ rfl rfl (Nat.le_of_ble_eq_true rfl) dX5_restWith_5 (kX6_lengthOf S p1) (fun b_1 γ => ?_)
  refine j_iadd 8 dX5_restWith_8 ?_
  refine j_callA_pi 9 rfl (by decide) (prs_mem (by decide) (by decide))  [.int p1, .int (p3 + b_1)] [] (n := 2) (owner := "TwoTongues$Order") (x := ⟨"TwoTongues$Order", "priceOf", "(II)I"⟩) gX5_restWith_X6_priceOf_u60X6 rfl (by decide +kernel) (by decide +kernel) ⟨Nat.le_of_ble_eq_true rfl, Nat.le_of_ble_eq_true rfl⟩ rfl rfl (Nat.le_of_ble_eq_true rfl) dX5_restWith_9 (kX6_priceOf S p1 (p3 + b_1)) (fun b_2 γ => ?_)
  refine j_aload_n 12 0 dX5_restWith_12 rfl rfl ?_
  refine j_getr (c2 := 33) (n2 := 0) 13 1 nX5_restWith_X6 rfl (by decide) (prs_mem (by decide) (by decide)) (by decide) (by decide) wX5_restWith_f9 (Or.inl rfl) rfl rfl rfl dX5_restWith_13 ?_
  refine j_iload_n 16 2 dX5_restWith_16 rfl rfl ?_
  refine j_iconst (v := 1) 17 dX5_restWith_17 (by decide) ?_
  refine j_iload_n 18 1 dX5_restWith_18 rfl rfl ?_
  refine j_ishl 19 dX5_restWith_19 ?_
  refine j_ior 20 dX5_restWith_20 ?_
  refine j_iald (c := 33) (n := 0) (L := 512) 21 (prs_mem (by decide) (by decide)) (by decide) rfl rfl rfl dX5_restWith_21 ?_
  refine j_iadd 22 dX5_restWith_22 ?_
  exact j_iret 23 rfl dX5_restWith_23
set_option maxRecDepth 100000 in
set_option maxHeartbeats 4000000 in
theorem kX5_restWith_p {ad : Nat → Nat → Nat} (S : St) (p1 : Int32) (p2 : Int32) (p3 : Int32) : ∀ b, fX5_restWith_p S p1 p2 p3 = some b → ∀ l dC dI cy, CT l dC dI cy ad yX5_restWith wsX5_restWith 1 22 [.ref (ad 5 0), .int p1, .int p2, .int p3] S (some (.int b)) S :=
  fun b hb l dC dI cy => ct_of (l := l) (dC := dC) (dI := dI) (cy := cy) (outpi S) (by decide) rfl (Nat.le_of_ble_eq_true rfl) rfl (fun X γ => tX5_restWith_p X γ S p1 p2 p3) b hb
-- X5_cheapestRest_p
theorem nX5_cheapestRest_X6 : ∀ w ∈ u_ws RX6 TX6 4, w ∈ wsX5_cheapestRest := by decide +kernel
set_option maxRecDepth 100000 in
set_option maxHeartbeats 4000000 in
theorem tX5_cheapestRest_p_L24 {ad : Nat → Nat → Nat} (X : Ctx) (F : Nat) (S : St) (x1 : Int32) (x3 : Int32)   : ∀ (n : Nat) (γ : Nat → Nat) (x2 : Int32) (x4 : Int32), JJ X ad γ (RQm X ad 2 45 (outpi S)) (fcm (outpi S)) 2 45 cX5_cheapestRest 5 RX5 wsX5_cheapestRest (some .int) (fX5_cheapestRest_p_L24 F S x1 x3 n x2 x4) S 24 [(0, .ref (ad 5 0)), (1, .int x1), (2, .int x2), (3, .int x3), (4, .int x4)] [] := by
  intro n
  induction n with
  | zero => intro _ _ _; exact j_none
  | succ n ih =>
    intro γ x2 x4
    rw [show fX5_cheapestRest_p_L24 F S x1 x3 (n + 1) x2 x4 = fX5_cheapestRest_p_b24 F S x1 x3 (fX5_cheapestRest_p_L24 F S x1 x3 n) x2 x4 from rfl]
    unfold fX5_cheapestRest_p_b24
    refine j_iload 24 4 dX5_cheapestRest_24 rfl ?_
    refine j_aload_n 26 0 dX5_cheapestRest_26 rfl rfl ?_
    refine j_getr (c2 := 0) (n2 := 0) 27 0 nX5_cheapestRest_X6 rfl (by decide) (prs_mem (by decide) (by decide)) (by decide) (by decide) wX5_cheapestRest_f15 (Or.inl rfl) rfl rfl rfl dX5_cheapestRest_27 ?_
    refine j_geti 30 6 nX5_cheapestRest_X0 rfl (by decide) (prs_mem (by decide) (by decide)) (by decide) (by decide) wX5_cheapestRest_f33 (Or.inl rfl) rfl dX5_cheapestRest_30 ?_
    refine j_icmp_ge 33 71 dX5_cheapestRest_33 (by decide) (fun _ => ?_) (fun _ => ?_)
    · refine j_iload_n 71 2 dX5_cheapestRest_71 rfl rfl ?_
      exact j_iret 72 rfl dX5_cheapestRest_72
    · refine j_aload_n 36 0 dX5_cheapestRest_36 rfl rfl ?_
      refine j_geti 37 2 nX5_cheapestRest_X6 rfl (by decide) (prs_mem (by decide) (by decide)) (by decide) (by decide) wX5_cheapestRest_f25 (Or.inl rfl) rfl dX5_cheapestRest_37 ?_
      refine j_iload_n 40 1 dX5_cheapestRest_40 rfl rfl ?_
      refine j_iconst (v := (-1)) 41 dX5_cheapestRest_41 (by decide) ?_
      refine j_ixor 42 dX5_cheapestRest_42 ?_
      refine j_iand 43 dX5_cheapestRest_43 ?_
      refine j_iload 44 4 dX5_cheapestRest_44 rfl ?_
      refine j_callSN_pi 46  [.int ((gI S 5 0 2) &&& (x1 ^^^ (-1))), .int x4] [] (host := "TwoTongues") gX5_cheapestRest_X11_hasBit_n43 rfl (by decide +kernel) wX5_cheapestRest_stX11_hasBit wX5_cheapestRest_inX11_hasBit eX11_hasBit ⟨Nat.le_of_ble_eq_true rfl, Nat.le_of_ble_eq_true rfl⟩ rfl rfl (Nat.le_of_ble_eq_true rfl) dX5_cheapestRest_46 (kX11_hasBit S ((gI S 5 0 2) &&& (x1 ^^^ (-1))) x4) (fun b_2 γ => ?_)
      refine j_if_eq 49 65 dX5_cheapestRest_49 (by decide) (fun _ => ?_) (fun _ => ?_)
      · refine j_iinc (v := x4 + 1) (lv2 := [(4, .int (x4 + 1)), (0, .ref (ad 5 0)), (1, .int x1), (2, .int x2), (3, .int x3)]) 65 4 dX5_cheapestRest_65 rfl rfl (by decide) rfl ?_
        refine j_goto 68 24 dX5_cheapestRest_68 (by decide) ?_
        refine j_sub [1, 2, 3, 4, 0] rfl ?_
        exact ih _ x2 (x4 + 1)
      · refine j_iload_n 52 2 dX5_cheapestRest_52 rfl rfl ?_
        refine j_aload_n 53 0 dX5_cheapestRest_53 rfl rfl ?_
        refine j_iload 54 4 dX5_cheapestRest_54 rfl ?_
        refine j_iload_n 56 1 dX5_cheapestRest_56 rfl rfl ?_
        refine j_iload_n 57 3 dX5_cheapestRest_57 rfl rfl ?_
        refine j_callU_pi 58 rfl (by decide) (prs_mem (by decide) (by decide))  [.int x4, .int x1, .int x3] [.int x2] (n := 3) (owner := "TwoTongues$Order") (x := ⟨"TwoTongues$Order", "restWith", "(III)I"⟩) gX5_cheapestRest_X5_restWith_u47X6 rfl rfl (by decide +kernel) ⟨Nat.le_of_ble_eq_true rfl, Nat.le_of_ble_eq_true rfl⟩ rfl rfl (Nat.le_of_ble_eq_true rfl) dX5_cheapestRest_58 (kX5_restWith_p S x4 x1 x3) (fun b_3 γ => ?_)
        refine j_mmin 61 dX5_cheapestRest_61 wX5_cheapestRest_m51 wX5_cheapestRest_msmin wX5_cheapestRest_mi wX5_cheapestRest_mcmin ⟨Nat.le_of_ble_eq_true rfl, Nat.le_of_ble_eq_true rfl⟩ ?_
        refine j_bndi (fun x2_4 => ?_)
        refine j_istore_n (lv2 := [(2, .int x2_4), (0, .ref (ad 5 0)), (1, .int x1), (3, .int x3), (4, .int x4)]) 64 dX5_cheapestRest_64 rfl (by decide) rfl ?_
        refine j_iinc (v := x4 + 1) (lv2 := [(4, .int (x4 + 1)), (2, .int x2_4), (0, .ref (ad 5 0)), (1, .int x1), (3, .int x3)]) 65 4 dX5_cheapestRest_65 rfl rfl (by decide) rfl ?_
        refine j_goto 68 24 dX5_cheapestRest_68 (by decide) ?_
        refine j_sub [2, 3, 1, 4, 0] rfl ?_
        exact ih _ x2_4 (x4 + 1)
set_option maxRecDepth 100000 in
set_option maxHeartbeats 4000000 in
theorem tX5_cheapestRest_p_j14 {ad : Nat → Nat → Nat} (X : Ctx) (γ : Nat → Nat) (F : Nat) (S : St) (x1 : Int32) (s0 : Int32)   : JJ X ad γ (RQm X ad 2 45 (outpi S)) (fcm (outpi S)) 2 45 cX5_cheapestRest 5 RX5 wsX5_cheapestRest (some .int) (fX5_cheapestRest_p_j14 F S x1 s0) S 14 [(0, .ref (ad 5 0)), (1, .int x1)] [.int s0] := by
  unfold fX5_cheapestRest_p_j14
  refine j_istore_n (lv2 := [(2, .int s0), (0, .ref (ad 5 0)), (1, .int x1)]) 14 dX5_cheapestRest_14 rfl (by decide) rfl ?_
  refine j_aload_n 15 1 dX5_cheapestRest_15 rfl rfl ?_
  refine j_iload_n 16 2 dX5_cheapestRest_16 rfl rfl ?_
  refine j_callU_pi 17 rfl (by decide) (prs_mem (by decide) (by decide))  [.int x1] [] (n := 1) (owner := "TwoTongues$Order") (x := ⟨"TwoTongues$Order", "lengthOfAll", "(I)I"⟩) gX5_cheapestRest_X5_lengthOfAll_u40X6 rfl rfl (by decide +kernel) ⟨Nat.le_of_ble_eq_true rfl, Nat.le_of_ble_eq_true rfl⟩ rfl rfl (Nat.le_of_ble_eq_true rfl) dX5_cheapestRest_17 (kX5_lengthOfAll_p F S x1) (fun b_1 γ => ?_)
  refine j_istore_n (lv2 := [(3, .int b_1), (2, .int s0), (0, .ref (ad 5 0)), (1, .int x1)]) 20 dX5_cheapestRest_20 rfl (by decide) rfl ?_
  refine j_iconst (v := 0) 21 dX5_cheapestRest_21 (by decide) ?_
  refine j_istore (lv2 := [(4, .int 0), (3, .int b_1), (2, .int s0), (0, .ref (ad 5 0)), (1, .int x1)]) 22 dX5_cheapestRest_22 (by decide) rfl ?_
  refine j_sub [3, 4, 2, 1, 0] rfl ?_
  exact tX5_cheapestRest_p_L24 X F S x1 b_1 F _ s0 0
set_option maxRecDepth 100000 in
set_option maxHeartbeats 4000000 in
theorem tX5_cheapestRest_p {ad : Nat → Nat → Nat} (X : Ctx) (γ : Nat → Nat) (F : Nat) (S : St) (p1 : Int32) : JJ X ad γ (RQm X ad 2 45 (outpi S)) (fcm (outpi S)) 2 45 cX5_cheapestRest 5 RX5 wsX5_cheapestRest (some .int) (fX5_cheapestRest_p F S p1) S 0 [(0, .ref (ad 5 0)), (1, .int p1)] [] := by
  unfold fX5_cheapestRest_p
  refine j_iload_n 0 1 dX5_cheapestRest_0 rfl rfl ?_
  refine j_aload_n 1 0 dX5_cheapestRest_1 rfl rfl ?_
  refine j_geti 2 2 nX5_cheapestRest_X6 rfl (by decide) (prs_mem (by decide) (by decide)) (by decide) (by decide) wX5_cheapestRest_f25 (Or.inl rfl) rfl dX5_cheapestRest_2 ?_
  refine j_icmp_ne 5 12 dX5_cheapestRest_5 (by decide) (fun _ => ?_) (fun _ => ?_)
  · refine j_ldc (v := 1000000000) 12 dX5_cheapestRest_12 wX5_cheapestRest_c39 ?_
    exact tX5_cheapestRest_p_j14 X _ F S p1 1000000000
  · refine j_iconst (v := 0) 8 dX5_cheapestRest_8 (by decide) ?_
    refine j_goto 9 14 dX5_cheapestRest_9 (by decide) ?_
    exact tX5_cheapestRest_p_j14 X _ F S p1 0
set_option maxRecDepth 100000 in
set_option maxHeartbeats 4000000 in
theorem kX5_cheapestRest_p {ad : Nat → Nat → Nat} (F : Nat) (S : St) (p1 : Int32) : ∀ b, fX5_cheapestRest_p F S p1 = some b → ∀ l dC dI cy, CT l dC dI cy ad yX5_cheapestRest wsX5_cheapestRest 2 45 [.ref (ad 5 0), .int p1] S (some (.int b)) S :=
  fun b hb l dC dI cy => ct_of (l := l) (dC := dC) (dI := dI) (cy := cy) (outpi S) (by decide) rfl (Nat.le_of_ble_eq_true rfl) rfl (fun X γ => tX5_cheapestRest_p X γ F S p1) b hb
-- X5_arrange_p
theorem nX5_arrange_X6 : ∀ w ∈ u_ws RX6 TX6 4, w ∈ wsX5_arrange := by decide +kernel
set_option maxRecDepth 100000 in
set_option maxHeartbeats 4000000 in
theorem tX5_arrange_p_L18 {ad : Nat → Nat → Nat} (X : Ctx) (F : Nat) (k50 : St → Option (Int32 × St))  (hk50 : ∀ (γ : Nat → Nat) (S : St), JJ X ad γ (RQm X ad 3 69 outei) (fcm outei) 3 69 cX5_arrange 3 RX5 wsX5_arrange (some .int) (k50 S) S 50 [(0, .ref (ad 5 0))] []) : ∀ (n : Nat) (γ : Nat → Nat) (x2 : Int32) (S : St), JJ X ad γ (RQm X ad 3 69 outei) (fcm outei) 3 69 cX5_arrange 3 RX5 wsX5_arrange (some .int) (fX5_arrange_p_L18 F k50 n x2 S) S 18 [(0, .ref (ad 5 0)), (2, .int x2)] [] := by
  intro n
  induction n with
  | zero => intro _ _ _; exact j_none
  | succ n ih =>
    intro γ x2 S
    rw [show fX5_arrange_p_L18 F k50 (n + 1) x2 S = fX5_arrange_p_b18 F k50 (fX5_arrange_p_L18 F k50 n) x2 S from rfl]
    unfold fX5_arrange_p_b18
    refine j_iload_n 18 1 dX5_arrange_18 rfl rfl ?_
    refine j_if_lt 19 50 dX5_arrange_19 (by decide) (fun _ => ?_) (fun _ => ?_)
    · refine j_sub [0] rfl ?_
      exact hk50 _ S
    · refine j_iload_n 22 1 dX5_arrange_22 rfl rfl ?_
      refine j_aload_n 23 0 dX5_arrange_23 rfl rfl ?_
      refine j_geti 24 2 nX5_arrange_X6 rfl (by decide) (prs_mem (by decide) (by decide)) (by decide) (by decide) wX5_arrange_f25 (Or.inl rfl) rfl dX5_arrange_24 ?_
      refine j_iconst (v := (-1)) 27 dX5_arrange_27 (by decide) ?_
      refine j_ixor 28 dX5_arrange_28 ?_
      refine j_iand 29 dX5_arrange_29 ?_
      refine j_if_ne 30 44 dX5_arrange_30 (by decide) (fun _ => ?_) (fun _ => ?_)
      · refine j_iinc (v := x2 + (-1)) (lv2 := [(2, .int (x2 + (-1))), (0, .ref (ad 5 0))]) 44 1 dX5_arrange_44 rfl rfl (by decide) rfl ?_
        refine j_goto 47 18 dX5_arrange_47 (by decide) ?_
        refine j_sub [1, 0] rfl ?_
        exact ih _ (x2 + (-1)) S
      · refine j_aload_n 33 0 dX5_arrange_33 rfl rfl ?_
        refine j_getr (c2 := 33) (n2 := 0) 34 1 nX5_arrange_X6 rfl (by decide) (prs_mem (by decide) (by decide)) (by decide) (by decide) wX5_arrange_f9 (Or.inl rfl) rfl rfl rfl dX5_arrange_34 ?_
        refine j_iload_n 37 1 dX5_arrange_37 rfl rfl ?_
        refine j_aload_n 38 0 dX5_arrange_38 rfl rfl ?_
        refine j_iload_n 39 1 dX5_arrange_39 rfl rfl ?_
        refine j_callU_pi 40 rfl (by decide) (prs_mem (by decide) (by decide))  [.int x2] [.int x2, .ref (ad 33 0)] (n := 1) (owner := "TwoTongues$Order") (x := ⟨"TwoTongues$Order", "cheapestRest", "(I)I"⟩) gX5_arrange_X5_cheapestRest_u29X6 rfl rfl (by decide +kernel) ⟨Nat.le_of_ble_eq_true rfl, Nat.le_of_ble_eq_true rfl⟩ rfl rfl (Nat.le_of_ble_eq_true rfl) dX5_arrange_40 (kX5_cheapestRest_p F S x2) (fun b_4 γ => ?_)
        refine j_iast (c := 33) (n := 0) (L := 512) 43 (prs_mem (by decide) (by decide)) (by decide) rfl rfl rfl dX5_arrange_43 (j_bs (fun S_5 => ?_))
        refine j_iinc (v := x2 + (-1)) (lv2 := [(2, .int (x2 + (-1))), (0, .ref (ad 5 0))]) 44 1 dX5_arrange_44 rfl rfl (by decide) rfl ?_
        refine j_goto 47 18 dX5_arrange_47 (by decide) ?_
        refine j_sub [1, 0] rfl ?_
        exact ih _ (x2 + (-1)) S_5
set_option maxRecDepth 100000 in
set_option maxHeartbeats 4000000 in
theorem tX5_arrange_p {ad : Nat → Nat → Nat} (X : Ctx) (γ : Nat → Nat) (F : Nat) (S : St) (p1 : Int32) : JJ X ad γ (RQm X ad 3 69 outei) (fcm outei) 3 69 cX5_arrange 3 RX5 wsX5_arrange (some .int) (fX5_arrange_p F S p1) S 0 [(0, .ref (ad 5 0)), (1, .int p1)] [] := by
  unfold fX5_arrange_p
  refine j_aload_n 0 0 dX5_arrange_0 rfl rfl ?_
  refine j_iload_n 1 1 dX5_arrange_1 rfl rfl ?_
  refine j_aload_n 2 0 dX5_arrange_2 rfl rfl ?_
  refine j_getr (c2 := 0) (n2 := 0) 3 0 nX5_arrange_X6 rfl (by decide) (prs_mem (by decide) (by decide)) (by decide) (by decide) wX5_arrange_f15 (Or.inl rfl) rfl rfl rfl dX5_arrange_3 ?_
  refine j_callV_pi 6 rfl (by decide) (prs_mem (by decide) (by decide))  [] [.int p1, .ref (ad 5 0)] gX5_arrange_X0_everyOne rfl eX0_everyOne ⟨Nat.le_of_ble_eq_true rfl, Nat.le_of_ble_eq_true rfl⟩ rfl rfl (Nat.le_of_ble_eq_true rfl) dX5_arrange_6 (kX0_everyOne S) (fun b_1 γ => ?_)
  refine j_iand 9 dX5_arrange_9 ?_
  refine j_puti 10 2 nX5_arrange_X6 rfl (by decide) (prs_mem (by decide) (by decide)) (by decide) (by decide) wX5_arrange_f25 (Or.inl rfl) tyX6 tyX6_ok nmX6 rfl (by decide) rfl dX5_arrange_10 (j_bs (fun S_2 => ?_))
  refine j_aload_n 13 0 dX5_arrange_13 rfl rfl ?_
  refine j_geti 14 2 nX5_arrange_X6 rfl (by decide) (prs_mem (by decide) (by decide)) (by decide) (by decide) wX5_arrange_f25 (Or.inl rfl) rfl dX5_arrange_14 ?_
  refine j_bndi (fun x2_3 => ?_)
  refine j_istore_n (lv2 := [(2, .int x2_3), (0, .ref (ad 5 0)), (1, .int p1)]) 17 dX5_arrange_17 rfl (by decide) rfl ?_
  refine j_sub [1, 0] rfl ?_
  refine tX5_arrange_p_L18 X F _ (fun γ S_6 => ?_) F _ x2_3 S_2
  refine j_aload_n 50 0 dX5_arrange_50 rfl rfl ?_
  refine j_getr (c2 := 33) (n2 := 0) 51 1 nX5_arrange_X6 rfl (by decide) (prs_mem (by decide) (by decide)) (by decide) (by decide) wX5_arrange_f9 (Or.inl rfl) rfl rfl rfl dX5_arrange_51 ?_
  refine j_iconst (v := 0) 54 dX5_arrange_54 (by decide) ?_
  refine j_iald (c := 33) (n := 0) (L := 512) 55 (prs_mem (by decide) (by decide)) (by decide) rfl rfl rfl dX5_arrange_55 ?_
  exact j_iret 56 rfl dX5_arrange_56
set_option maxRecDepth 100000 in
set_option maxHeartbeats 4000000 in
theorem kX5_arrange_p {ad : Nat → Nat → Nat} (F : Nat) (S : St) (p1 : Int32) : ∀ b, fX5_arrange_p F S p1 = some b → ∀ l dC dI cy, CT l dC dI cy ad yX5_arrange wsX5_arrange 3 69 [.ref (ad 5 0), .int p1] S (some (.int b.1)) b.2 :=
  fun b hb l dC dI cy => ct_of (l := l) (dC := dC) (dI := dI) (cy := cy) outei (by decide) rfl (Nat.le_of_ble_eq_true rfl) rfl (fun X γ => tX5_arrange_p X γ F S p1) b hb
-- X5_nextOf_h
theorem nX5_nextOf_X0 : ∀ w ∈ u_ws RX0 TX0 7, w ∈ wsX5_nextOf := by decide +kernel
theorem nX5_nextOf_X2 : ∀ w ∈ u_ws RX2 TX2 5, w ∈ wsX5_nextOf := by decide +kernel
theorem wX5_nextOf_f15 : Cond.fieldLink RX5 15 "TwoTongues$Order" "claims" "LTwoTongues$Claims;" ∈ wsX5_nextOf := by decide +kernel
theorem wX5_nextOf_f33 : Cond.fieldLink RX5 33 "TwoTongues$Claims" "size" "I" ∈ wsX5_nextOf := by decide +kernel
theorem wX5_nextOf_f25 : Cond.fieldLink RX5 25 "TwoTongues$Order" "all" "I" ∈ wsX5_nextOf := by decide +kernel
theorem wX5_nextOf_stX11_hasBit : Cond.static yX11_hasBit ∈ wsX5_nextOf := by decide +kernel
theorem wX5_nextOf_inX11_hasBit : Cond.initialized yX11_hasBit.cls ∈ wsX5_nextOf := by decide +kernel
theorem wX5_nextOf_f9 : Cond.fieldLink RX5 9 "TwoTongues$Order" "rest" "[I" ∈ wsX5_nextOf := by decide +kernel
set_option maxRecDepth 100000 in
set_option maxHeartbeats 4000000 in
theorem tX5_nextOf_h_L8 {ad : Nat → Nat → Nat} (X : Ctx) (F : Nat) (S : St) (x1 : Int32) (x2 : Int32)   : ∀ (n : Nat) (γ : Nat → Nat) (x3 : Int32), JJ X ad γ (RQm X ad 3 67 (outpi S)) (fcm (outpi S)) 3 67 cX5_nextOf 4 RX5 wsX5_nextOf (some .int) (fX5_nextOf_h_L8 F S x1 x2 n x3) S 8 [(0, .ref (ad 2 0)), (1, .int x1), (2, .int x2), (3, .int x3)] [] := by
  intro n
  induction n with
  | zero => intro _ _; exact j_none
  | succ n ih =>
    intro γ x3
    rw [show fX5_nextOf_h_L8 F S x1 x2 (n + 1) x3 = fX5_nextOf_h_b8 F S x1 x2 (fX5_nextOf_h_L8 F S x1 x2 n) x3 from rfl]
    unfold fX5_nextOf_h_b8
    refine j_iload_n 8 3 dX5_nextOf_8 rfl rfl ?_
    refine j_aload_n 9 0 dX5_nextOf_9 rfl rfl ?_
    refine j_getr (c2 := 0) (n2 := 0) 10 0 nX5_nextOf_X2 rfl (by decide) (prs_mem (by decide) (by decide)) (by decide) (by decide) wX5_nextOf_f15 (Or.inl rfl) rfl rfl rfl dX5_nextOf_10 ?_
    refine j_geti 13 6 nX5_nextOf_X0 rfl (by decide) (prs_mem (by decide) (by decide)) (by decide) (by decide) wX5_nextOf_f33 (Or.inl rfl) rfl dX5_nextOf_13 ?_
    refine j_icmp_ge 16 58 dX5_nextOf_16 (by decide) (fun _ => ?_) (fun _ => ?_)
    · refine j_bipush (v := (-4)) 58 dX5_nextOf_58 (by decide) ?_
      exact j_iret 60 rfl dX5_nextOf_60
    · refine j_aload_n 19 0 dX5_nextOf_19 rfl rfl ?_
      refine j_geti 20 2 nX5_nextOf_X2 rfl (by decide) (prs_mem (by decide) (by decide)) (by decide) (by decide) wX5_nextOf_f25 (Or.inl rfl) rfl dX5_nextOf_20 ?_
      refine j_iload_n 23 1 dX5_nextOf_23 rfl rfl ?_
      refine j_iconst (v := (-1)) 24 dX5_nextOf_24 (by decide) ?_
      refine j_ixor 25 dX5_nextOf_25 ?_
      refine j_iand 26 dX5_nextOf_26 ?_
      refine j_iload_n 27 3 dX5_nextOf_27 rfl rfl ?_
      refine j_callSN_pi 28  [.int ((gI S 2 0 2) &&& (x1 ^^^ (-1))), .int x3] [] (host := "TwoTongues") gX5_nextOf_X11_hasBit_n43 rfl (by decide +kernel) wX5_nextOf_stX11_hasBit wX5_nextOf_inX11_hasBit eX11_hasBit ⟨Nat.le_of_ble_eq_true rfl, Nat.le_of_ble_eq_true rfl⟩ rfl rfl (Nat.le_of_ble_eq_true rfl) dX5_nextOf_28 (kX11_hasBit S ((gI S 2 0 2) &&& (x1 ^^^ (-1))) x3) (fun b_2 γ => ?_)
      refine j_if_eq 31 52 dX5_nextOf_31 (by decide) (fun _ => ?_) (fun _ => ?_)
      · refine j_iinc (v := x3 + 1) (lv2 := [(3, .int (x3 + 1)), (0, .ref (ad 2 0)), (1, .int x1), (2, .int x2)]) 52 3 dX5_nextOf_52 rfl rfl (by decide) rfl ?_
        refine j_goto 55 8 dX5_nextOf_55 (by decide) ?_
        refine j_sub [1, 2, 3, 0] rfl ?_
        exact ih _ (x3 + 1)
      · refine j_aload_n 34 0 dX5_nextOf_34 rfl rfl ?_
        refine j_iload_n 35 3 dX5_nextOf_35 rfl rfl ?_
        refine j_iload_n 36 1 dX5_nextOf_36 rfl rfl ?_
        refine j_iload_n 37 2 dX5_nextOf_37 rfl rfl ?_
        refine j_callU_pi 38 rfl (by decide) (prs_mem (by decide) (by decide))  [.int x3, .int x1, .int x2] [] (n := 3) (owner := "TwoTongues$Order") (x := ⟨"TwoTongues$Order", "restWith", "(III)I"⟩) gX5_nextOf_X5_restWith_u47X2 rfl rfl (by decide +kernel) ⟨Nat.le_of_ble_eq_true rfl, Nat.le_of_ble_eq_true rfl⟩ rfl rfl (Nat.le_of_ble_eq_true rfl) dX5_nextOf_38 (kX5_restWith_h S x3 x1 x2) (fun b_3 γ => ?_)
        refine j_aload_n 41 0 dX5_nextOf_41 rfl rfl ?_
        refine j_getr (c2 := 19) (n2 := 0) 42 1 nX5_nextOf_X2 rfl (by decide) (prs_mem (by decide) (by decide)) (by decide) (by decide) wX5_nextOf_f9 (Or.inl rfl) rfl rfl rfl dX5_nextOf_42 ?_
        refine j_iload_n 45 1 dX5_nextOf_45 rfl rfl ?_
        refine j_iald (c := 19) (n := 0) (L := 512) 46 (prs_mem (by decide) (by decide)) (by decide) rfl rfl rfl dX5_nextOf_46 ?_
        refine j_icmp_ne 47 52 dX5_nextOf_47 (by decide) (fun _ => ?_) (fun _ => ?_)
        · refine j_iinc (v := x3 + 1) (lv2 := [(3, .int (x3 + 1)), (0, .ref (ad 2 0)), (1, .int x1), (2, .int x2)]) 52 3 dX5_nextOf_52 rfl rfl (by decide) rfl ?_
          refine j_goto 55 8 dX5_nextOf_55 (by decide) ?_
          refine j_sub [1, 2, 3, 0] rfl ?_
          exact ih _ (x3 + 1)
        · refine j_iload_n 50 3 dX5_nextOf_50 rfl rfl ?_
          exact j_iret 51 rfl dX5_nextOf_51
set_option maxRecDepth 100000 in
set_option maxHeartbeats 4000000 in
theorem tX5_nextOf_h {ad : Nat → Nat → Nat} (X : Ctx) (γ : Nat → Nat) (F : Nat) (S : St) (p1 : Int32) : JJ X ad γ (RQm X ad 3 67 (outpi S)) (fcm (outpi S)) 3 67 cX5_nextOf 4 RX5 wsX5_nextOf (some .int) (fX5_nextOf_h F S p1) S 0 [(0, .ref (ad 2 0)), (1, .int p1)] [] := by
  unfold fX5_nextOf_h
  refine j_aload_n 0 0 dX5_nextOf_0 rfl rfl ?_
  refine j_iload_n 1 1 dX5_nextOf_1 rfl rfl ?_
  refine j_callU_pi 2 rfl (by decide) (prs_mem (by decide) (by decide))  [.int p1] [] (n := 1) (owner := "TwoTongues$Order") (x := ⟨"TwoTongues$Order", "lengthOfAll", "(I)I"⟩) gX5_nextOf_X5_lengthOfAll_u40X2 rfl rfl (by decide +kernel) ⟨Nat.le_of_ble_eq_true rfl, Nat.le_of_ble_eq_true rfl⟩ rfl rfl (Nat.le_of_ble_eq_true rfl) dX5_nextOf_2 (kX5_lengthOfAll_h F S p1) (fun b_1 γ => ?_)
  refine j_istore_n (lv2 := [(2, .int b_1), (0, .ref (ad 2 0)), (1, .int p1)]) 5 dX5_nextOf_5 rfl (by decide) rfl ?_
  refine j_iconst (v := 0) 6 dX5_nextOf_6 (by decide) ?_
  refine j_istore_n (lv2 := [(3, .int 0), (2, .int b_1), (0, .ref (ad 2 0)), (1, .int p1)]) 7 dX5_nextOf_7 rfl (by decide) rfl ?_
  refine j_sub [2, 3, 1, 0] rfl ?_
  exact tX5_nextOf_h_L8 X F S p1 b_1 F _ 0
set_option maxRecDepth 100000 in
set_option maxHeartbeats 4000000 in
theorem kX5_nextOf_h {ad : Nat → Nat → Nat} (F : Nat) (S : St) (p1 : Int32) : ∀ b, fX5_nextOf_h F S p1 = some b → ∀ l dC dI cy, CT l dC dI cy ad yX5_nextOf wsX5_nextOf 3 67 [.ref (ad 2 0), .int p1] S (some (.int b)) S :=
  fun b hb l dC dI cy => ct_of (l := l) (dC := dC) (dI := dI) (cy := cy) (outpi S) (by decide) rfl (Nat.le_of_ble_eq_true rfl) rfl (fun X γ => tX5_nextOf_h X γ F S p1) b hb
-- X5_claimAt_h
theorem nX5_claimAt_X0 : ∀ w ∈ u_ws RX0 TX0 7, w ∈ wsX5_claimAt := by decide +kernel
theorem nX5_claimAt_X2 : ∀ w ∈ u_ws RX2 TX2 5, w ∈ wsX5_claimAt := by decide +kernel
theorem wX5_claimAt_f15 : Cond.fieldLink RX5 15 "TwoTongues$Order" "claims" "LTwoTongues$Claims;" ∈ wsX5_claimAt := by decide +kernel
theorem wX5_claimAt_f33 : Cond.fieldLink RX5 33 "TwoTongues$Claims" "size" "I" ∈ wsX5_claimAt := by decide +kernel
set_option maxRecDepth 100000 in
set_option maxHeartbeats 4000000 in
theorem tX5_claimAt_h_L4 {ad : Nat → Nat → Nat} (X : Ctx) (F : Nat) (S : St) (x1 : Int32)   : ∀ (n : Nat) (γ : Nat → Nat) (x2 : Int32) (x3 : Int32), JJ X ad γ (RQm X ad 4 90 (outpi S)) (fcm (outpi S)) 4 90 cX5_claimAt 5 RX5 wsX5_claimAt (some .int) (fX5_claimAt_h_L4 F S x1 n x2 x3) S 4 [(0, .ref (ad 2 0)), (1, .int x1), (2, .int x2), (3, .int x3)] [] := by
  intro n
  induction n with
  | zero => intro _ _ _; exact j_none
  | succ n ih =>
    intro γ x2 x3
    rw [show fX5_claimAt_h_L4 F S x1 (n + 1) x2 x3 = fX5_claimAt_h_b4 F S x1 (fX5_claimAt_h_L4 F S x1 n) x2 x3 from rfl]
    unfold fX5_claimAt_h_b4
    refine j_iload_n 4 3 dX5_claimAt_4 rfl rfl ?_
    refine j_aload_n 5 0 dX5_claimAt_5 rfl rfl ?_
    refine j_getr (c2 := 0) (n2 := 0) 6 0 nX5_claimAt_X2 rfl (by decide) (prs_mem (by decide) (by decide)) (by decide) (by decide) wX5_claimAt_f15 (Or.inl rfl) rfl rfl rfl dX5_claimAt_6 ?_
    refine j_geti 9 6 nX5_claimAt_X0 rfl (by decide) (prs_mem (by decide) (by decide)) (by decide) (by decide) wX5_claimAt_f33 (Or.inl rfl) rfl dX5_claimAt_9 ?_
    refine j_icmp_ge 12 48 dX5_claimAt_12 (by decide) (fun _ => ?_) (fun _ => ?_)
    · refine j_bipush (v := (-4)) 48 dX5_claimAt_48 (by decide) ?_
      exact j_iret 50 rfl dX5_claimAt_50
    · refine j_aload_n 15 0 dX5_claimAt_15 rfl rfl ?_
      refine j_iload_n 16 2 dX5_claimAt_16 rfl rfl ?_
      refine j_callU_pi 17 rfl (by decide) (prs_mem (by decide) (by decide))  [.int x2] [] (n := 1) (owner := "TwoTongues$Order") (x := ⟨"TwoTongues$Order", "nextOf", "(I)I"⟩) gX5_claimAt_X5_nextOf_u36X2 rfl rfl (by decide +kernel) ⟨Nat.le_of_ble_eq_true rfl, Nat.le_of_ble_eq_true rfl⟩ rfl rfl (Nat.le_of_ble_eq_true rfl) dX5_claimAt_17 (kX5_nextOf_h F S x2) (fun b_1 γ => ?_)
      refine j_istore (lv2 := [(4, .int b_1), (0, .ref (ad 2 0)), (1, .int x1), (2, .int x2), (3, .int x3)]) 20 dX5_claimAt_20 (by decide) rfl ?_
      refine j_iload 22 0 dX5_claimAt_22 rfl ?_
      refine j_if_lt 24 32 dX5_claimAt_24 (by decide) (fun _ => ?_) (fun _ => ?_)
      · refine j_iload 32 0 dX5_claimAt_32 rfl ?_
        exact j_iret 34 rfl dX5_claimAt_34
      · refine j_iload_n 27 4 dX5_claimAt_27 rfl rfl ?_
        refine j_iload_n 28 2 dX5_claimAt_28 rfl rfl ?_
        refine j_icmp_ne 29 35 dX5_claimAt_29 (by decide) (fun _ => ?_) (fun _ => ?_)
        · refine j_iload_n 35 3 dX5_claimAt_35 rfl rfl ?_
          refine j_iconst (v := 1) 36 dX5_claimAt_36 (by decide) ?_
          refine j_iload 37 0 dX5_claimAt_37 rfl ?_
          refine j_ishl 39 dX5_claimAt_39 ?_
          refine j_ior 40 dX5_claimAt_40 ?_
          refine j_bndi (fun x2_2 => ?_)
          refine j_istore_n (lv2 := [(2, .int x2_2), (4, .int b_1), (0, .ref (ad 2 0)), (1, .int x1), (3, .int x3)]) 41 dX5_claimAt_41 rfl (by decide) rfl ?_
          refine j_iinc (v := x3 + 1) (lv2 := [(3, .int (x3 + 1)), (2, .int x2_2), (4, .int b_1), (0, .ref (ad 2 0)), (1, .int x1)]) 42 4 dX5_claimAt_42 rfl rfl (by decide) rfl ?_
          refine j_goto 45 4 dX5_claimAt_45 (by decide) ?_
          refine j_sub [3, 4, 1, 0] rfl ?_
          exact ih _ x2_2 (x3 + 1)
        · refine j_iload 32 0 dX5_claimAt_32 rfl ?_
          exact j_iret 34 rfl dX5_claimAt_34
set_option maxRecDepth 100000 in
set_option maxHeartbeats 4000000 in
theorem tX5_claimAt_h {ad : Nat → Nat → Nat} (X : Ctx) (γ : Nat → Nat) (F : Nat) (S : St) (p1 : Int32) : JJ X ad γ (RQm X ad 4 90 (outpi S)) (fcm (outpi S)) 4 90 cX5_claimAt 5 RX5 wsX5_claimAt (some .int) (fX5_claimAt_h F S p1) S 0 [(0, .ref (ad 2 0)), (1, .int p1)] [] := by
  unfold fX5_claimAt_h
  refine j_iconst (v := 0) 0 dX5_claimAt_0 (by decide) ?_
  refine j_istore_n (lv2 := [(2, .int 0), (0, .ref (ad 2 0)), (1, .int p1)]) 1 dX5_claimAt_1 rfl (by decide) rfl ?_
  refine j_iconst (v := 0) 2 dX5_claimAt_2 (by decide) ?_
  refine j_istore_n (lv2 := [(3, .int 0), (2, .int 0), (0, .ref (ad 2 0)), (1, .int p1)]) 3 dX5_claimAt_3 rfl (by decide) rfl ?_
  refine j_sub [2, 3, 1, 0] rfl ?_
  exact tX5_claimAt_h_L4 X F S p1 F _ 0 0
set_option maxRecDepth 100000 in
set_option maxHeartbeats 4000000 in
theorem kX5_claimAt_h {ad : Nat → Nat → Nat} (F : Nat) (S : St) (p1 : Int32) : ∀ b, fX5_claimAt_h F S p1 = some b → ∀ l dC dI cy, CT l dC dI cy ad yX5_claimAt wsX5_claimAt 4 90 [.ref (ad 2 0), .int p1] S (some (.int b)) S :=
  fun b hb l dC dI cy => ct_of (l := l) (dC := dC) (dI := dI) (cy := cy) (outpi S) (by decide) rfl (Nat.le_of_ble_eq_true rfl) rfl (fun X γ => tX5_claimAt_h X γ F S p1) b hb
