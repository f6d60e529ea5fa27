-- X0_add
theorem nX0_add_X0 : ∀ w ∈ u_ws RX0 TX0 7, w ∈ wsX0_add := by decide +kernel
theorem wX0_add_f30 : Cond.fieldLink RX0 30 "TwoTongues$Claims" "size" "I" ∈ wsX0_add := by decide +kernel
theorem wX0_add_f9 : Cond.fieldLink RX0 9 "TwoTongues$Claims" "kin" "[I" ∈ wsX0_add := by decide +kernel
theorem wX0_add_f15 : Cond.fieldLink RX0 15 "TwoTongues$Claims" "weight" "[I" ∈ wsX0_add := by decide +kernel
theorem wX0_add_f18 : Cond.fieldLink RX0 18 "TwoTongues$Claims" "elder" "[I" ∈ wsX0_add := by decide +kernel
theorem wX0_add_f21 : Cond.fieldLink RX0 21 "TwoTongues$Claims" "time" "[I" ∈ wsX0_add := by decide +kernel
theorem wX0_add_f24 : Cond.fieldLink RX0 24 "TwoTongues$Claims" "needed" "[I" ∈ wsX0_add := by decide +kernel
theorem wX0_add_f27 : Cond.fieldLink RX0 27 "TwoTongues$Claims" "asked" "[I" ∈ wsX0_add := by decide +kernel
set_option maxRecDepth 100000 in
set_option maxHeartbeats 4000000 in
theorem tX0_add {ad : Nat → Nat → Nat} (X : Ctx) (γ : Nat → Nat) (S : St) (p1 : Int32) (p2 : Int32) (p3 : Int32) (p4 : Int32) (p5 : Int32) (p6 : Int32) : JJ X ad γ (RQm X ad 0 0 outei) (fcm outei) 0 0 cX0_add 7 RX0 wsX0_add (some .int) (fX0_add S p1 p2 p3 p4 p5 p6) S 0 [(0, .ref (ad 0 0)), (1, .int p1), (2, .int p2), (3, .int p3), (4, .int p4), (5, .int p5), (6, .int p6)] [] := by
  unfold fX0_add
  refine j_aload_n 0 0 dX0_add_0 rfl rfl ?_
  refine j_geti 1 6 nX0_add_X0 rfl (by decide) (prs_mem (by decide) (by decide)) (by decide) (by decide) wX0_add_f30 (Or.inl rfl) rfl dX0_add_1 ?_
  refine j_bipush (v := 9) 4 dX0_add_4 (by decide) ?_
  refine j_icmp_lt 6 12 dX0_add_6 (by decide) (fun _ => ?_) (fun _ => ?_)
  · refine j_aload_n 12 0 dX0_add_12 rfl rfl ?_
    refine j_getr (c2 := 12) (n2 := 0) 13 0 nX0_add_X0 rfl (by decide) (prs_mem (by decide) (by decide)) (by decide) (by decide) wX0_add_f9 (Or.inl rfl) rfl rfl rfl dX0_add_13 ?_
    refine j_aload_n 16 0 dX0_add_16 rfl rfl ?_
    refine j_geti 17 6 nX0_add_X0 rfl (by decide) (prs_mem (by decide) (by decide)) (by decide) (by decide) wX0_add_f30 (Or.inl rfl) rfl dX0_add_17 ?_
    refine j_iload_n 20 1 dX0_add_20 rfl rfl ?_
    refine j_iast (c := 12) (n := 0) (L := 9) 21 (prs_mem (by decide) (by decide)) (by decide) rfl rfl rfl dX0_add_21 (j_bs (fun S_1 => ?_))
    refine j_aload_n 22 0 dX0_add_22 rfl rfl ?_
    refine j_getr (c2 := 13) (n2 := 0) 23 1 nX0_add_X0 rfl (by decide) (prs_mem (by decide) (by decide)) (by decide) (by decide) wX0_add_f15 (Or.inl rfl) rfl rfl rfl dX0_add_23 ?_
    refine j_aload_n 26 0 dX0_add_26 rfl rfl ?_
    refine j_geti 27 6 nX0_add_X0 rfl (by decide) (prs_mem (by decide) (by decide)) (by decide) (by decide) wX0_add_f30 (Or.inl rfl) rfl dX0_add_27 ?_
    refine j_iload_n 30 2 dX0_add_30 rfl rfl ?_
    refine j_iast (c := 13) (n := 0) (L := 9) 31 (prs_mem (by decide) (by decide)) (by decide) rfl rfl rfl dX0_add_31 (j_bs (fun S_2 => ?_))
    refine j_aload_n 32 0 dX0_add_32 rfl rfl ?_
    refine j_getr (c2 := 14) (n2 := 0) 33 2 nX0_add_X0 rfl (by decide) (prs_mem (by decide) (by decide)) (by decide) (by decide) wX0_add_f18 (Or.inl rfl) rfl rfl rfl dX0_add_33 ?_
    refine j_aload_n 36 0 dX0_add_36 rfl rfl ?_
    refine j_geti 37 6 nX0_add_X0 rfl (by decide) (prs_mem (by decide) (by decide)) (by decide) (by decide) wX0_add_f30 (Or.inl rfl) rfl dX0_add_37 ?_
    refine j_iload_n 40 3 dX0_add_40 rfl rfl ?_
    refine j_iast (c := 14) (n := 0) (L := 9) 41 (prs_mem (by decide) (by decide)) (by decide) rfl rfl rfl dX0_add_41 (j_bs (fun S_3 => ?_))
    refine j_aload_n 42 0 dX0_add_42 rfl rfl ?_
    refine j_getr (c2 := 15) (n2 := 0) 43 3 nX0_add_X0 rfl (by decide) (prs_mem (by decide) (by decide)) (by decide) (by decide) wX0_add_f21 (Or.inl rfl) rfl rfl rfl dX0_add_43 ?_
    refine j_aload_n 46 0 dX0_add_46 rfl rfl ?_
    refine j_geti 47 6 nX0_add_X0 rfl (by decide) (prs_mem (by decide) (by decide)) (by decide) (by decide) wX0_add_f30 (Or.inl rfl) rfl dX0_add_47 ?_
    refine j_iload 50 4 dX0_add_50 rfl ?_
    refine j_iast (c := 15) (n := 0) (L := 9) 52 (prs_mem (by decide) (by decide)) (by decide) rfl rfl rfl dX0_add_52 (j_bs (fun S_4 => ?_))
    refine j_aload_n 53 0 dX0_add_53 rfl rfl ?_
    refine j_getr (c2 := 16) (n2 := 0) 54 4 nX0_add_X0 rfl (by decide) (prs_mem (by decide) (by decide)) (by decide) (by decide) wX0_add_f24 (Or.inl rfl) rfl rfl rfl dX0_add_54 ?_
    refine j_aload_n 57 0 dX0_add_57 rfl rfl ?_
    refine j_geti 58 6 nX0_add_X0 rfl (by decide) (prs_mem (by decide) (by decide)) (by decide) (by decide) wX0_add_f30 (Or.inl rfl) rfl dX0_add_58 ?_
    refine j_iload 61 5 dX0_add_61 rfl ?_
    refine j_iast (c := 16) (n := 0) (L := 9) 63 (prs_mem (by decide) (by decide)) (by decide) rfl rfl rfl dX0_add_63 (j_bs (fun S_5 => ?_))
    refine j_aload_n 64 0 dX0_add_64 rfl rfl ?_
    refine j_getr (c2 := 17) (n2 := 0) 65 5 nX0_add_X0 rfl (by decide) (prs_mem (by decide) (by decide)) (by decide) (by decide) wX0_add_f27 (Or.inl rfl) rfl rfl rfl dX0_add_65 ?_
    refine j_aload_n 68 0 dX0_add_68 rfl rfl ?_
    refine j_geti 69 6 nX0_add_X0 rfl (by decide) (prs_mem (by decide) (by decide)) (by decide) (by decide) wX0_add_f30 (Or.inl rfl) rfl dX0_add_69 ?_
    refine j_iload 72 6 dX0_add_72 rfl ?_
    refine j_iast (c := 17) (n := 0) (L := 9) 74 (prs_mem (by decide) (by decide)) (by decide) rfl rfl rfl dX0_add_74 (j_bs (fun S_6 => ?_))
    refine j_aload_n 75 0 dX0_add_75 rfl rfl ?_
    refine j_dup 76 dX0_add_76 rfl ?_
    refine j_geti 77 6 nX0_add_X0 rfl (by decide) (prs_mem (by decide) (by decide)) (by decide) (by decide) wX0_add_f30 (Or.inl rfl) rfl dX0_add_77 ?_
    refine j_iconst (v := 1) 80 dX0_add_80 (by decide) ?_
    refine j_iadd 81 dX0_add_81 ?_
    refine j_puti 82 6 nX0_add_X0 rfl (by decide) (prs_mem (by decide) (by decide)) (by decide) (by decide) wX0_add_f30 (Or.inl rfl) tyX0 tyX0_ok nmX0 rfl (by decide) rfl dX0_add_82 (j_bs (fun S_7 => ?_))
    refine j_aload_n 85 0 dX0_add_85 rfl rfl ?_
    refine j_geti 86 6 nX0_add_X0 rfl (by decide) (prs_mem (by decide) (by decide)) (by decide) (by decide) wX0_add_f30 (Or.inl rfl) rfl dX0_add_86 ?_
    refine j_iconst (v := 1) 89 dX0_add_89 (by decide) ?_
    refine j_isub 90 dX0_add_90 ?_
    exact j_iret 91 rfl dX0_add_91
  · refine j_bipush (v := (-3)) 9 dX0_add_9 (by decide) ?_
    exact j_iret 11 rfl dX0_add_11
set_option maxRecDepth 100000 in
set_option maxHeartbeats 4000000 in
theorem kX0_add {ad : Nat → Nat → Nat} (S : St) (p1 : Int32) (p2 : Int32) (p3 : Int32) (p4 : Int32) (p5 : Int32) (p6 : Int32) : ∀ b, fX0_add S p1 p2 p3 p4 p5 p6 = some b → ∀ l dC dI cy, CT l dC dI cy ad yX0_add wsX0_add 0 0 [.ref (ad 0 0), .int p1, .int p2, .int p3, .int p4, .int p5, .int p6] S (some (.int b.1)) b.2 :=
  fun b hb l dC dI cy => ct_of (l := l) (dC := dC) (dI := dI) (cy := cy) outei (by decide) rfl (Nat.le_of_ble_eq_true rfl) rfl (fun X γ => tX0_add X γ S p1 p2 p3 p4 p5 p6) b hb
-- X0_everyOne
theorem nX0_everyOne_X0 : ∀ w ∈ u_ws RX0 TX0 7, w ∈ wsX0_everyOne := by decide +kernel
theorem wX0_everyOne_f30 : Cond.fieldLink RX0 30 "TwoTongues$Claims" "size" "I" ∈ wsX0_everyOne := by decide +kernel
set_option maxRecDepth 100000 in
set_option maxHeartbeats 4000000 in
theorem tX0_everyOne {ad : Nat → Nat → Nat} (X : Ctx) (γ : Nat → Nat) (S : St) : JJ X ad γ (RQm X ad 0 0 (outpi S)) (fcm (outpi S)) 0 0 cX0_everyOne 1 RX0 wsX0_everyOne (some .int) (fX0_everyOne S) S 0 [(0, .ref (ad 0 0))] [] := by
  unfold fX0_everyOne
  refine j_iconst (v := 1) 0 dX0_everyOne_0 (by decide) ?_
  refine j_aload_n 1 0 dX0_everyOne_1 rfl rfl ?_
  refine j_geti 2 6 nX0_everyOne_X0 rfl (by decide) (prs_mem (by decide) (by decide)) (by decide) (by decide) wX0_everyOne_f30 (Or.inl rfl) rfl dX0_everyOne_2 ?_
  refine j_ishl 5 dX0_everyOne_5 ?_
  refine j_iconst (v := 1) 6 dX0_everyOne_6 (by decide) ?_
  refine j_isub 7 dX0_everyOne_7 ?_
  exact j_iret 8 rfl dX0_everyOne_8
set_option maxRecDepth 100000 in
set_option maxHeartbeats 4000000 in
theorem kX0_everyOne {ad : Nat → Nat → Nat} (S : St) : ∀ b, fX0_everyOne S = some b → ∀ l dC dI cy, CT l dC dI cy ad yX0_everyOne wsX0_everyOne 0 0 [.ref (ad 0 0)] S (some (.int b)) S :=
  fun b hb l dC dI cy => ct_of (l := l) (dC := dC) (dI := dI) (cy := cy) (outpi S) (by decide) rfl (Nat.le_of_ble_eq_true rfl) rfl (fun X γ => tX0_everyOne X γ S) b hb
-- X0_foundedBy
theorem nX0_foundedBy_X0 : ∀ w ∈ u_ws RX0 TX0 7, w ∈ wsX0_foundedBy := by decide +kernel
theorem wX0_foundedBy_f30 : Cond.fieldLink RX0 30 "TwoTongues$Claims" "size" "I" ∈ wsX0_foundedBy := by decide +kernel
theorem wX0_foundedBy_f24 : Cond.fieldLink RX0 24 "TwoTongues$Claims" "needed" "[I" ∈ wsX0_foundedBy := by decide +kernel
set_option maxRecDepth 100000 in
set_option maxHeartbeats 4000000 in
theorem tX0_foundedBy_L4 {ad : Nat → Nat → Nat} (X : Ctx) (F : Nat) (S : St) (x1 : Int32)   : ∀ (n : Nat) (γ : Nat → Nat) (x2 : Int32) (x3 : Int32), JJ X ad γ (RQm X ad 0 0 (outpi S)) (fcm (outpi S)) 0 0 cX0_foundedBy 4 RX0 wsX0_foundedBy (some .int) (fX0_foundedBy_L4 F S x1 n x2 x3) S 4 [(0, .ref (ad 0 0)), (1, .int x1), (2, .int x2), (3, .int x3)] [] := by
  intro n
  induction n with
  | zero => intro _ _ _; exact j_none
  | succ n ih =>
    intro γ x2 x3
    rw [show fX0_foundedBy_L4 F S x1 (n + 1) x2 x3 = fX0_foundedBy_b4 F S x1 (fX0_foundedBy_L4 F S x1 n) x2 x3 from rfl]
    unfold fX0_foundedBy_b4
    refine j_iload_n 4 3 dX0_foundedBy_4 rfl rfl ?_
    refine j_aload_n 5 0 dX0_foundedBy_5 rfl rfl ?_
    refine j_geti 6 6 nX0_foundedBy_X0 rfl (by decide) (prs_mem (by decide) (by decide)) (by decide) (by decide) wX0_foundedBy_f30 (Or.inl rfl) rfl dX0_foundedBy_6 ?_
    refine j_icmp_ge 9 37 dX0_foundedBy_9 (by decide) (fun _ => ?_) (fun _ => ?_)
    · refine j_iload_n 37 2 dX0_foundedBy_37 rfl rfl ?_
      exact j_iret 38 rfl dX0_foundedBy_38
    · refine j_aload_n 12 0 dX0_foundedBy_12 rfl rfl ?_
      refine j_getr (c2 := 16) (n2 := 0) 13 4 nX0_foundedBy_X0 rfl (by decide) (prs_mem (by decide) (by decide)) (by decide) (by decide) wX0_foundedBy_f24 (Or.inl rfl) rfl rfl rfl dX0_foundedBy_13 ?_
      refine j_iload_n 16 3 dX0_foundedBy_16 rfl rfl ?_
      refine j_iald (c := 16) (n := 0) (L := 9) 17 (prs_mem (by decide) (by decide)) (by decide) rfl rfl rfl dX0_foundedBy_17 ?_
      refine j_iload_n 18 1 dX0_foundedBy_18 rfl rfl ?_
      refine j_iconst (v := (-1)) 19 dX0_foundedBy_19 (by decide) ?_
      refine j_ixor 20 dX0_foundedBy_20 ?_
      refine j_iand 21 dX0_foundedBy_21 ?_
      refine j_if_ne 22 31 dX0_foundedBy_22 (by decide) (fun _ => ?_) (fun _ => ?_)
      · refine j_iinc (v := x3 + 1) (lv2 := [(3, .int (x3 + 1)), (0, .ref (ad 0 0)), (1, .int x1), (2, .int x2)]) 31 3 dX0_foundedBy_31 rfl rfl (by decide) rfl ?_
        refine j_goto 34 4 dX0_foundedBy_34 (by decide) ?_
        refine j_sub [1, 2, 3, 0] rfl ?_
        exact ih _ x2 (x3 + 1)
      · refine j_iload_n 25 2 dX0_foundedBy_25 rfl rfl ?_
        refine j_iconst (v := 1) 26 dX0_foundedBy_26 (by decide) ?_
        refine j_iload_n 27 3 dX0_foundedBy_27 rfl rfl ?_
        refine j_ishl 28 dX0_foundedBy_28 ?_
        refine j_ior 29 dX0_foundedBy_29 ?_
        refine j_bndi (fun x2_1 => ?_)
        refine j_istore_n (lv2 := [(2, .int x2_1), (0, .ref (ad 0 0)), (1, .int x1), (3, .int x3)]) 30 dX0_foundedBy_30 rfl (by decide) rfl ?_
        refine j_iinc (v := x3 + 1) (lv2 := [(3, .int (x3 + 1)), (2, .int x2_1), (0, .ref (ad 0 0)), (1, .int x1)]) 31 3 dX0_foundedBy_31 rfl rfl (by decide) rfl ?_
        refine j_goto 34 4 dX0_foundedBy_34 (by decide) ?_
        refine j_sub [2, 3, 1, 0] rfl ?_
        exact ih _ x2_1 (x3 + 1)
set_option maxRecDepth 100000 in
set_option maxHeartbeats 4000000 in
theorem tX0_foundedBy {ad : Nat → Nat → Nat} (X : Ctx) (γ : Nat → Nat) (F : Nat) (S : St) (p1 : Int32) : JJ X ad γ (RQm X ad 0 0 (outpi S)) (fcm (outpi S)) 0 0 cX0_foundedBy 4 RX0 wsX0_foundedBy (some .int) (fX0_foundedBy F S p1) S 0 [(0, .ref (ad 0 0)), (1, .int p1)] [] := by
  unfold fX0_foundedBy
  refine j_iconst (v := 0) 0 dX0_foundedBy_0 (by decide) ?_
  refine j_istore_n (lv2 := [(2, .int 0), (0, .ref (ad 0 0)), (1, .int p1)]) 1 dX0_foundedBy_1 rfl (by decide) rfl ?_
  refine j_iconst (v := 0) 2 dX0_foundedBy_2 (by decide) ?_
  refine j_istore_n (lv2 := [(3, .int 0), (2, .int 0), (0, .ref (ad 0 0)), (1, .int p1)]) 3 dX0_foundedBy_3 rfl (by decide) rfl ?_
  refine j_sub [2, 3, 1, 0] rfl ?_
  exact tX0_foundedBy_L4 X F S p1 F _ 0 0
set_option maxRecDepth 100000 in
set_option maxHeartbeats 4000000 in
theorem kX0_foundedBy {ad : Nat → Nat → Nat} (F : Nat) (S : St) (p1 : Int32) : ∀ b, fX0_foundedBy F S p1 = some b → ∀ l dC dI cy, CT l dC dI cy ad yX0_foundedBy wsX0_foundedBy 0 0 [.ref (ad 0 0), .int p1] S (some (.int b)) S :=
  fun b hb l dC dI cy => ct_of (l := l) (dC := dC) (dI := dI) (cy := cy) (outpi S) (by decide) rfl (Nat.le_of_ble_eq_true rfl) rfl (fun X γ => tX0_foundedBy X γ F S p1) b hb
-- X0_allWeights
theorem nX0_allWeights_X0 : ∀ w ∈ u_ws RX0 TX0 7, w ∈ wsX0_allWeights := by decide +kernel
theorem wX0_allWeights_f30 : Cond.fieldLink RX0 30 "TwoTongues$Claims" "size" "I" ∈ wsX0_allWeights := by decide +kernel
theorem wX0_allWeights_f15 : Cond.fieldLink RX0 15 "TwoTongues$Claims" "weight" "[I" ∈ wsX0_allWeights := by decide +kernel
set_option maxRecDepth 100000 in
set_option maxHeartbeats 4000000 in
theorem tX0_allWeights_L4 {ad : Nat → Nat → Nat} (X : Ctx) (F : Nat) (S : St)   : ∀ (n : Nat) (γ : Nat → Nat) (x1 : Int32) (x2 : Int32), JJ X ad γ (RQm X ad 0 0 (outpi S)) (fcm (outpi S)) 0 0 cX0_allWeights 3 RX0 wsX0_allWeights (some .int) (fX0_allWeights_L4 F S n x1 x2) S 4 [(0, .ref (ad 0 0)), (1, .int x1), (2, .int x2)] [] := by
  intro n
  induction n with
  | zero => intro _ _ _; exact j_none
  | succ n ih =>
    intro γ x1 x2
    rw [show fX0_allWeights_L4 F S (n + 1) x1 x2 = fX0_allWeights_b4 F S (fX0_allWeights_L4 F S n) x1 x2 from rfl]
    unfold fX0_allWeights_b4
    refine j_iload_n 4 2 dX0_allWeights_4 rfl rfl ?_
    refine j_aload_n 5 0 dX0_allWeights_5 rfl rfl ?_
    refine j_geti 6 6 nX0_allWeights_X0 rfl (by decide) (prs_mem (by decide) (by decide)) (by decide) (by decide) wX0_allWeights_f30 (Or.inl rfl) rfl dX0_allWeights_6 ?_
    refine j_icmp_ge 9 27 dX0_allWeights_9 (by decide) (fun _ => ?_) (fun _ => ?_)
    · refine j_iload_n 27 1 dX0_allWeights_27 rfl rfl ?_
      exact j_iret 28 rfl dX0_allWeights_28
    · refine j_iload_n 12 1 dX0_allWeights_12 rfl rfl ?_
      refine j_aload_n 13 0 dX0_allWeights_13 rfl rfl ?_
      refine j_getr (c2 := 13) (n2 := 0) 14 1 nX0_allWeights_X0 rfl (by decide) (prs_mem (by decide) (by decide)) (by decide) (by decide) wX0_allWeights_f15 (Or.inl rfl) rfl rfl rfl dX0_allWeights_14 ?_
      refine j_iload_n 17 2 dX0_allWeights_17 rfl rfl ?_
      refine j_iald (c := 13) (n := 0) (L := 9) 18 (prs_mem (by decide) (by decide)) (by decide) rfl rfl rfl dX0_allWeights_18 ?_
      refine j_iadd 19 dX0_allWeights_19 ?_
      refine j_bndi (fun x1_1 => ?_)
      refine j_istore_n (lv2 := [(1, .int x1_1), (0, .ref (ad 0 0)), (2, .int x2)]) 20 dX0_allWeights_20 rfl (by decide) rfl ?_
      refine j_iinc (v := x2 + 1) (lv2 := [(2, .int (x2 + 1)), (1, .int x1_1), (0, .ref (ad 0 0))]) 21 2 dX0_allWeights_21 rfl rfl (by decide) rfl ?_
      refine j_goto 24 4 dX0_allWeights_24 (by decide) ?_
      refine j_sub [2, 1, 0] rfl ?_
      exact ih _ x1_1 (x2 + 1)
set_option maxRecDepth 100000 in
set_option maxHeartbeats 4000000 in
theorem tX0_allWeights {ad : Nat → Nat → Nat} (X : Ctx) (γ : Nat → Nat) (F : Nat) (S : St) : JJ X ad γ (RQm X ad 0 0 (outpi S)) (fcm (outpi S)) 0 0 cX0_allWeights 3 RX0 wsX0_allWeights (some .int) (fX0_allWeights F S) S 0 [(0, .ref (ad 0 0))] [] := by
  unfold fX0_allWeights
  refine j_iconst (v := 0) 0 dX0_allWeights_0 (by decide) ?_
  refine j_istore_n (lv2 := [(1, .int 0), (0, .ref (ad 0 0))]) 1 dX0_allWeights_1 rfl (by decide) rfl ?_
  refine j_iconst (v := 0) 2 dX0_allWeights_2 (by decide) ?_
  refine j_istore_n (lv2 := [(2, .int 0), (1, .int 0), (0, .ref (ad 0 0))]) 3 dX0_allWeights_3 rfl (by decide) rfl ?_
  refine j_sub [2, 1, 0] rfl ?_
  exact tX0_allWeights_L4 X F S F _ 0 0
set_option maxRecDepth 100000 in
set_option maxHeartbeats 4000000 in
theorem kX0_allWeights {ad : Nat → Nat → Nat} (F : Nat) (S : St) : ∀ b, fX0_allWeights F S = some b → ∀ l dC dI cy, CT l dC dI cy ad yX0_allWeights wsX0_allWeights 0 0 [.ref (ad 0 0)] S (some (.int b)) S :=
  fun b hb l dC dI cy => ct_of (l := l) (dC := dC) (dI := dI) (cy := cy) (outpi S) (by decide) rfl (Nat.le_of_ble_eq_true rfl) rfl (fun X γ => tX0_allWeights X γ F S) b hb
-- J7_fill_d0a16
set_option maxRecDepth 100000 in
set_option maxHeartbeats 4000000 in
theorem tJ7_fill_d0a16_L6 {ad : Nat → Nat → Nat} (X : Ctx) (F : Nat) (y1 : Int64) (x4 : Int32)   : ∀ (n : Nat) (γ : Nat → Nat) (x3 : Int32) (S : St), JJ X ad γ (RQm X ad 0 0 outev) (fcm outev) 0 0 cJ7_fill_d0a16 5 RJ7 wsJ7_fill_d0a16 none (fJ7_fill_d0a16_L6 F y1 x4 n x3 S) S 6 [(0, .ref (ad 18 0)), (1, .long y1), (3, .int x3), (4, .int x4)] [] := by
  intro n
  induction n with
  | zero => intro _ _ _; exact j_none
  | succ n ih =>
    intro γ x3 S
    rw [show fJ7_fill_d0a16_L6 F y1 x4 (n + 1) x3 S = fJ7_fill_d0a16_b6 F y1 x4 (fJ7_fill_d0a16_L6 F y1 x4 n) x3 S from rfl]
    unfold fJ7_fill_d0a16_b6
    refine j_iload_n 6 2 dJ7_fill_d0a16_6 rfl rfl ?_
    refine j_iload 7 3 dJ7_fill_d0a16_7 rfl ?_
    refine j_icmp_ge 9 22 dJ7_fill_d0a16_9 (by decide) (fun _ => ?_) (fun _ => ?_)
    · exact j_vret 22 rfl dJ7_fill_d0a16_22
    · refine j_aload_n 12 0 dJ7_fill_d0a16_12 rfl rfl ?_
      refine j_iload_n 13 2 dJ7_fill_d0a16_13 rfl rfl ?_
      refine j_lload_n 14 1 dJ7_fill_d0a16_14 rfl rfl ?_
      refine j_last (c := 18) (n := 0) (L := 30) 15 (prs_mem (by decide) (by decide)) (by decide) rfl rfl rfl dJ7_fill_d0a16_15 (j_bs (fun S_2 => ?_))
      refine j_iinc (v := x3 + 1) (lv2 := [(3, .int (x3 + 1)), (0, .ref (ad 18 0)), (1, .long y1), (4, .int x4)]) 16 2 dJ7_fill_d0a16_16 rfl rfl (by decide) rfl ?_
      refine j_goto 19 6 dJ7_fill_d0a16_19 (by decide) ?_
      refine j_sub [1, 2, 0, 3] rfl ?_
      exact ih _ (x3 + 1) S_2
set_option maxRecDepth 100000 in
set_option maxHeartbeats 4000000 in
theorem tJ7_fill_d0a16 {ad : Nat → Nat → Nat} (X : Ctx) (γ : Nat → Nat) (F : Nat) (S : St) (p1 : Int64) : JJ X ad γ (RQm X ad 0 0 outev) (fcm outev) 0 0 cJ7_fill_d0a16 5 RJ7 wsJ7_fill_d0a16 none (fJ7_fill_d0a16 F S p1) S 0 [(0, .ref (ad 18 0)), (1, .long p1)] [] := by
  unfold fJ7_fill_d0a16
  refine j_iconst (v := 0) 0 dJ7_fill_d0a16_0 (by decide) ?_
  refine j_istore_n (lv2 := [(3, .int 0), (0, .ref (ad 18 0)), (1, .long p1)]) 1 dJ7_fill_d0a16_1 rfl (by decide) rfl ?_
  refine j_aload_n 2 1 dJ7_fill_d0a16_2 rfl rfl ?_
  refine j_alen_lald (c := 18) (n := 0) (L := 30) 3 (prs_mem (by decide) (by decide)) (by decide) rfl rfl rfl dJ7_fill_d0a16_3 ?_
  refine j_bndi (fun x4_1 => ?_)
  refine j_istore (lv2 := [(4, .int x4_1), (3, .int 0), (0, .ref (ad 18 0)), (1, .long p1)]) 4 dJ7_fill_d0a16_4 (by decide) rfl ?_
  refine j_sub [2, 3, 1, 0] rfl ?_
  exact tJ7_fill_d0a16_L6 X F p1 x4_1 F _ 0 S
set_option maxRecDepth 100000 in
set_option maxHeartbeats 4000000 in
theorem kJ7_fill_d0a16 {ad : Nat → Nat → Nat} (F : Nat) (S : St) (p1 : Int64) : ∀ b, fJ7_fill_d0a16 F S p1 = some b → ∀ l dC dI cy, CT l dC dI cy ad yJ7_fill_d0a16 wsJ7_fill_d0a16 0 0 [.ref (ad 18 0), .long p1] S (none) b :=
  fun b hb l dC dI cy => ct_of (l := l) (dC := dC) (dI := dI) (cy := cy) outev (by decide) rfl (Nat.le_of_ble_eq_true rfl) rfl (fun X γ => tJ7_fill_d0a16 X γ F S p1) b hb
-- X11_hasBit
set_option maxRecDepth 100000 in
set_option maxHeartbeats 4000000 in
theorem tX11_hasBit {ad : Nat → Nat → Nat} (X : Ctx) (γ : Nat → Nat) (S : St) (p0 : Int32) (p1 : Int32) : JJ X ad γ (RQm X ad 0 0 (outpi S)) (fcm (outpi S)) 0 0 cX11_hasBit 2 RX11 wsX11_hasBit (some .boolean) (fX11_hasBit S p0 p1) S 0 [(0, .int p0), (1, .int p1)] [] := by
  unfold fX11_hasBit
  refine j_iload_n 0 0 dX11_hasBit_0 rfl rfl ?_
  refine j_iload_n 1 1 dX11_hasBit_1 rfl rfl ?_
  refine j_ishr 2 dX11_hasBit_2 ?_
  refine j_iconst (v := 1) 3 dX11_hasBit_3 (by decide) ?_
  refine j_iand 4 dX11_hasBit_4 ?_
  refine j_iconst (v := 1) 5 dX11_hasBit_5 (by decide) ?_
  refine j_icmp_ne 6 13 dX11_hasBit_6 (by decide) (fun _ => ?_) (fun _ => ?_)
  · refine j_iconst (v := 0) 13 dX11_hasBit_13 (by decide) ?_
    exact j_zret 14 (by decide) rfl dX11_hasBit_14
  · refine j_iconst (v := 1) 9 dX11_hasBit_9 (by decide) ?_
    refine j_goto 10 14 dX11_hasBit_10 (by decide) ?_
    exact j_zret 14 (by decide) rfl dX11_hasBit_14
set_option maxRecDepth 100000 in
set_option maxHeartbeats 4000000 in
theorem kX11_hasBit {ad : Nat → Nat → Nat} (S : St) (p0 : Int32) (p1 : Int32) : ∀ b, fX11_hasBit S p0 p1 = some b → ∀ l dC dI cy, CT l dC dI cy ad yX11_hasBit wsX11_hasBit 0 0 [.int p0, .int p1] S (some (.int b)) S :=
  fun b hb l dC dI cy => ct_of (l := l) (dC := dC) (dI := dI) (cy := cy) (outpi S) (by decide) rfl (Nat.le_of_ble_eq_true rfl) rfl (fun X γ => tX11_hasBit X γ S p0 p1) b hb
-- X7_isFounder
theorem nX7_isFounder_X7 : ∀ w ∈ u_ws RX7 TX7 12, w ∈ wsX7_isFounder := by decide +kernel
theorem wX7_isFounder_f24 : Cond.fieldLink RX7 24 "TwoTongues$People" "founds" "[I" ∈ wsX7_isFounder := by decide +kernel
theorem wX7_isFounder_stX11_hasBit : Cond.static yX11_hasBit ∈ wsX7_isFounder := by decide +kernel
theorem wX7_isFounder_inX11_hasBit : Cond.initialized yX11_hasBit.cls ∈ wsX7_isFounder := by decide +kernel
set_option maxRecDepth 100000 in
set_option maxHeartbeats 4000000 in
theorem tX7_isFounder {ad : Nat → Nat → Nat} (X : Ctx) (γ : Nat → Nat) (S : St) (p1 : Int32) (p2 : Int32) : JJ X ad γ (RQm X ad 1 21 (outpi S)) (fcm (outpi S)) 1 21 cX7_isFounder 3 RX7 wsX7_isFounder (some .boolean) (fX7_isFounder S p1 p2) S 0 [(0, .ref (ad 6 0)), (1, .int p1), (2, .int p2)] [] := by
  unfold fX7_isFounder
  refine j_aload_n 0 0 dX7_isFounder_0 rfl rfl ?_
  refine j_getr (c2 := 38) (n2 := 0) 1 4 nX7_isFounder_X7 rfl (by decide) (prs_mem (by decide) (by decide)) (by decide) (by decide) wX7_isFounder_f24 (Or.inl rfl) rfl rfl rfl dX7_isFounder_1 ?_
  refine j_iload_n 4 1 dX7_isFounder_4 rfl rfl ?_
  refine j_iald (c := 38) (n := 0) (L := 30) 5 (prs_mem (by decide) (by decide)) (by decide) rfl rfl rfl dX7_isFounder_5 ?_
  refine j_iload_n 6 2 dX7_isFounder_6 rfl rfl ?_
  refine j_callSN_pi 7  [.int (gA S 38 0 p1.toNatClampNeg), .int p2] [] (host := "TwoTongues") gX7_isFounder_X11_hasBit_n60 rfl (by decide +kernel) wX7_isFounder_stX11_hasBit wX7_isFounder_inX11_hasBit eX11_hasBit ⟨Nat.le_of_ble_eq_true rfl, Nat.le_of_ble_eq_true rfl⟩ rfl rfl (Nat.le_of_ble_eq_true rfl) dX7_isFounder_7 (kX11_hasBit S (gA S 38 0 p1.toNatClampNeg) p2) (fun b_1 γ => ?_)
  refine j_gd (fun hz => ?_)
  exact j_zret 10 (isB_nar hz) rfl dX7_isFounder_10
set_option maxRecDepth 100000 in
set_option maxHeartbeats 4000000 in
theorem kX7_isFounder {ad : Nat → Nat → Nat} (S : St) (p1 : Int32) (p2 : Int32) : ∀ b, fX7_isFounder S p1 p2 = some b → ∀ l dC dI cy, CT l dC dI cy ad yX7_isFounder wsX7_isFounder 1 21 [.ref (ad 6 0), .int p1, .int p2] S (some (.int b)) S :=
  fun b hb l dC dI cy => ct_of (l := l) (dC := dC) (dI := dI) (cy := cy) (outpi S) (by decide) rfl (Nat.le_of_ble_eq_true rfl) rfl (fun X γ => tX7_isFounder X γ S p1 p2) b hb
-- X7_isDead
theorem nX7_isDead_X7 : ∀ w ∈ u_ws RX7 TX7 12, w ∈ wsX7_isDead := by decide +kernel
theorem wX7_isDead_f15 : Cond.fieldLink RX7 15 "TwoTongues$People" "dead" "[I" ∈ wsX7_isDead := by decide +kernel
set_option maxRecDepth 100000 in
set_option maxHeartbeats 4000000 in
theorem tX7_isDead {ad : Nat → Nat → Nat} (X : Ctx) (γ : Nat → Nat) (S : St) (p1 : Int32) (p2 : Int32) : JJ X ad γ (RQm X ad 0 0 (outpi S)) (fcm (outpi S)) 0 0 cX7_isDead 3 RX7 wsX7_isDead (some .boolean) (fX7_isDead S p1 p2) S 0 [(0, .ref (ad 6 0)), (1, .int p1), (2, .int p2)] [] := by
  unfold fX7_isDead
  refine j_aload_n 0 0 dX7_isDead_0 rfl rfl ?_
  refine j_getr (c2 := 35) (n2 := 0) 1 1 nX7_isDead_X7 rfl (by decide) (prs_mem (by decide) (by decide)) (by decide) (by decide) wX7_isDead_f15 (Or.inl rfl) rfl rfl rfl dX7_isDead_1 ?_
  refine j_iload_n 4 1 dX7_isDead_4 rfl rfl ?_
  refine j_iald (c := 35) (n := 0) (L := 30) 5 (prs_mem (by decide) (by decide)) (by decide) rfl rfl rfl dX7_isDead_5 ?_
  refine j_iload_n 6 2 dX7_isDead_6 rfl rfl ?_
  refine j_icmp_gt 7 14 dX7_isDead_7 (by decide) (fun _ => ?_) (fun _ => ?_)
  · refine j_iconst (v := 0) 14 dX7_isDead_14 (by decide) ?_
    exact j_zret 15 (by decide) rfl dX7_isDead_15
  · refine j_iconst (v := 1) 10 dX7_isDead_10 (by decide) ?_
    refine j_goto 11 15 dX7_isDead_11 (by decide) ?_
    exact j_zret 15 (by decide) rfl dX7_isDead_15
set_option maxRecDepth 100000 in
set_option maxHeartbeats 4000000 in
theorem kX7_isDead {ad : Nat → Nat → Nat} (S : St) (p1 : Int32) (p2 : Int32) : ∀ b, fX7_isDead S p1 p2 = some b → ∀ l dC dI cy, CT l dC dI cy ad yX7_isDead wsX7_isDead 0 0 [.ref (ad 6 0), .int p1, .int p2] S (some (.int b)) S :=
  fun b hb l dC dI cy => ct_of (l := l) (dC := dC) (dI := dI) (cy := cy) (outpi S) (by decide) rfl (Nat.le_of_ble_eq_true rfl) rfl (fun X γ => tX7_isDead X γ S p1 p2) b hb
-- X7_isLivingFounder
theorem nX7_isLivingFounder_X7 : ∀ w ∈ u_ws RX7 TX7 12, w ∈ wsX7_isLivingFounder := by decide +kernel
theorem wX7_isLivingFounder_f9 : Cond.fieldLink RX7 9 "TwoTongues$People" "born" "[I" ∈ wsX7_isLivingFounder := by decide +kernel
set_option maxRecDepth 100000 in
set_option maxHeartbeats 4000000 in
theorem tX7_isLivingFounder {ad : Nat → Nat → Nat} (X : Ctx) (γ : Nat → Nat) (S : St) (p1 : Int32) (p2 : Int32) (p3 : Int32) : JJ X ad γ (RQm X ad 2 43 (outpi S)) (fcm (outpi S)) 2 43 cX7_isLivingFounder 4 RX7 wsX7_isLivingFounder (some .boolean) (fX7_isLivingFounder S p1 p2 p3) S 0 [(0, .ref (ad 6 0)), (1, .int p1), (2, .int p2), (3, .int p3)] [] := by
  unfold fX7_isLivingFounder
  refine j_aload_n 0 0 dX7_isLivingFounder_0 rfl rfl ?_
  refine j_iload_n 1 1 dX7_isLivingFounder_1 rfl rfl ?_
  refine j_iload_n 2 2 dX7_isLivingFounder_2 rfl rfl ?_
  refine j_callV_pi 3 rfl (by decide) (prs_mem (by decide) (by decide))  [.int p1, .int p2] [] gX7_isLivingFounder_X7_isFounder rfl eX7_isFounder ⟨Nat.le_of_ble_eq_true rfl, Nat.le_of_ble_eq_true rfl⟩ rfl rfl (Nat.le_of_ble_eq_true rfl) dX7_isLivingFounder_3 (kX7_isFounder S p1 p2) (fun b_1 γ => ?_)
  refine j_if_eq 6 32 dX7_isLivingFounder_6 (by decide) (fun _ => ?_) (fun _ => ?_)
  · refine j_iconst (v := 0) 32 dX7_isLivingFounder_32 (by decide) ?_
    exact j_zret 33 (by decide) rfl dX7_isLivingFounder_33
  · refine j_aload_n 9 0 dX7_isLivingFounder_9 rfl rfl ?_
    refine j_getr (c2 := 34) (n2 := 0) 10 0 nX7_isLivingFounder_X7 rfl (by decide) (prs_mem (by decide) (by decide)) (by decide) (by decide) wX7_isLivingFounder_f9 (Or.inl rfl) rfl rfl rfl dX7_isLivingFounder_10 ?_
    refine j_iload_n 13 1 dX7_isLivingFounder_13 rfl rfl ?_
    refine j_iald (c := 34) (n := 0) (L := 30) 14 (prs_mem (by decide) (by decide)) (by decide) rfl rfl rfl dX7_isLivingFounder_14 ?_
    refine j_iload_n 15 3 dX7_isLivingFounder_15 rfl rfl ?_
    refine j_icmp_gt 16 32 dX7_isLivingFounder_16 (by decide) (fun _ => ?_) (fun _ => ?_)
    · refine j_iconst (v := 0) 32 dX7_isLivingFounder_32 (by decide) ?_
      exact j_zret 33 (by decide) rfl dX7_isLivingFounder_33
    · refine j_aload_n 19 0 dX7_isLivingFounder_19 rfl rfl ?_
      refine j_iload_n 20 1 dX7_isLivingFounder_20 rfl rfl ?_
      refine j_iload_n 21 3 dX7_isLivingFounder_21 rfl rfl ?_
      refine j_callV_pi 22 rfl (by decide) (prs_mem (by decide) (by decide))  [.int p1, .int p3] [] gX7_isLivingFounder_X7_isDead rfl eX7_isDead ⟨Nat.le_of_ble_eq_true rfl, Nat.le_of_ble_eq_true rfl⟩ rfl rfl (Nat.le_of_ble_eq_true rfl) dX7_isLivingFounder_22 (kX7_isDead S p1 p3) (fun b_2 γ => ?_)
      refine j_if_ne 25 32 dX7_isLivingFounder_25 (by decide) (fun _ => ?_) (fun _ => ?_)
      · refine j_iconst (v := 0) 32 dX7_isLivingFounder_32 (by decide) ?_
        exact j_zret 33 (by decide) rfl dX7_isLivingFounder_33
      · refine j_iconst (v := 1) 28 dX7_isLivingFounder_28 (by decide) ?_
        refine j_goto 29 33 dX7_isLivingFounder_29 (by decide) ?_
        exact j_zret 33 (by decide) rfl dX7_isLivingFounder_33
set_option maxRecDepth 100000 in
set_option maxHeartbeats 4000000 in
theorem kX7_isLivingFounder {ad : Nat → Nat → Nat} (S : St) (p1 : Int32) (p2 : Int32) (p3 : Int32) : ∀ b, fX7_isLivingFounder S p1 p2 p3 = some b → ∀ l dC dI cy, CT l dC dI cy ad yX7_isLivingFounder wsX7_isLivingFounder 2 43 [.ref (ad 6 0), .int p1, .int p2, .int p3] S (some (.int b)) S :=
  fun b hb l dC dI cy => ct_of (l := l) (dC := dC) (dI := dI) (cy := cy) (outpi S) (by decide) rfl (Nat.le_of_ble_eq_true rfl) rfl (fun X γ => tX7_isLivingFounder X γ S p1 p2 p3) b hb
-- X7_livingFounders
theorem nX7_livingFounders_X7 : ∀ w ∈ u_ws RX7 TX7 12, w ∈ wsX7_livingFounders := by decide +kernel
theorem wX7_livingFounders_f43 : Cond.fieldLink RX7 43 "TwoTongues$People" "size" "I" ∈ wsX7_livingFounders := by decide +kernel
set_option maxRecDepth 100000 in
set_option maxHeartbeats 4000000 in
theorem tX7_livingFounders_L5 {ad : Nat → Nat → Nat} (X : Ctx) (F : Nat) (S : St) (x1 : Int32) (x2 : Int32)   : ∀ (n : Nat) (γ : Nat → Nat) (x3 : Int32) (x4 : Int32), JJ X ad γ (RQm X ad 3 66 (outpi S)) (fcm (outpi S)) 3 66 cX7_livingFounders 5 RX7 wsX7_livingFounders (some .int) (fX7_livingFounders_L5 F S x1 x2 n x3 x4) S 5 [(0, .ref (ad 6 0)), (1, .int x1), (2, .int x2), (3, .int x3), (4, .int x4)] [] := by
  intro n
  induction n with
  | zero => intro _ _ _; exact j_none
  | succ n ih =>
    intro γ x3 x4
    rw [show fX7_livingFounders_L5 F S x1 x2 (n + 1) x3 x4 = fX7_livingFounders_b5 F S x1 x2 (fX7_livingFounders_L5 F S x1 x2 n) x3 x4 from rfl]
    unfold fX7_livingFounders_b5
    refine j_iload 5 4 dX7_livingFounders_5 rfl ?_
    refine j_aload_n 7 0 dX7_livingFounders_7 rfl rfl ?_
    refine j_geti 8 6 nX7_livingFounders_X7 rfl (by decide) (prs_mem (by decide) (by decide)) (by decide) (by decide) wX7_livingFounders_f43 (Or.inl rfl) rfl dX7_livingFounders_8 ?_
    refine j_icmp_ge 11 34 dX7_livingFounders_11 (by decide) (fun _ => ?_) (fun _ => ?_)
    · refine j_iload_n 34 3 dX7_livingFounders_34 rfl rfl ?_
      exact j_iret 35 rfl dX7_livingFounders_35
    · refine j_aload_n 14 0 dX7_livingFounders_14 rfl rfl ?_
      refine j_iload 15 4 dX7_livingFounders_15 rfl ?_
      refine j_iload_n 17 1 dX7_livingFounders_17 rfl rfl ?_
      refine j_iload_n 18 2 dX7_livingFounders_18 rfl rfl ?_
      refine j_callV_pi 19 rfl (by decide) (prs_mem (by decide) (by decide))  [.int x4, .int x1, .int x2] [] gX7_livingFounders_X7_isLivingFounder rfl eX7_isLivingFounder ⟨Nat.le_of_ble_eq_true rfl, Nat.le_of_ble_eq_true rfl⟩ rfl rfl (Nat.le_of_ble_eq_true rfl) dX7_livingFounders_19 (kX7_isLivingFounder S x4 x1 x2) (fun b_1 γ => ?_)
      refine j_if_eq 22 28 dX7_livingFounders_22 (by decide) (fun _ => ?_) (fun _ => ?_)
      · refine j_iinc (v := x4 + 1) (lv2 := [(4, .int (x4 + 1)), (0, .ref (ad 6 0)), (1, .int x1), (2, .int x2), (3, .int x3)]) 28 4 dX7_livingFounders_28 rfl rfl (by decide) rfl ?_
        refine j_goto 31 5 dX7_livingFounders_31 (by decide) ?_
        refine j_sub [1, 2, 3, 4, 0] rfl ?_
        exact ih _ x3 (x4 + 1)
      · refine j_iinc (v := x3 + 1) (lv2 := [(3, .int (x3 + 1)), (0, .ref (ad 6 0)), (1, .int x1), (2, .int x2), (4, .int x4)]) 25 3 dX7_livingFounders_25 rfl rfl (by decide) rfl ?_
        refine j_iinc (v := x4 + 1) (lv2 := [(4, .int (x4 + 1)), (3, .int (x3 + 1)), (0, .ref (ad 6 0)), (1, .int x1), (2, .int x2)]) 28 4 dX7_livingFounders_28 rfl rfl (by decide) rfl ?_
        refine j_goto 31 5 dX7_livingFounders_31 (by decide) ?_
        refine j_sub [2, 3, 4, 1, 0] rfl ?_
        exact ih _ (x3 + 1) (x4 + 1)
set_option maxRecDepth 100000 in
set_option maxHeartbeats 4000000 in
theorem tX7_livingFounders {ad : Nat → Nat → Nat} (X : Ctx) (γ : Nat → Nat) (F : Nat) (S : St) (p1 : Int32) (p2 : Int32) : JJ X ad γ (RQm X ad 3 66 (outpi S)) (fcm (outpi S)) 3 66 cX7_livingFounders 5 RX7 wsX7_livingFounders (some .int) (fX7_livingFounders F S p1 p2) S 0 [(0, .ref (ad 6 0)), (1, .int p1), (2, .int p2)] [] := by
  unfold fX7_livingFounders
  refine j_iconst (v := 0) 0 dX7_livingFounders_0 (by decide) ?_
  refine j_istore_n (lv2 := [(3, .int 0), (0, .ref (ad 6 0)), (1, .int p1), (2, .int p2)]) 1 dX7_livingFounders_1 rfl (by decide) rfl ?_
  refine j_iconst (v := 0) 2 dX7_livingFounders_2 (by decide) ?_
  refine j_istore (lv2 := [(4, .int 0), (3, .int 0), (0, .ref (ad 6 0)), (1, .int p1), (2, .int p2)]) 3 dX7_livingFounders_3 (by decide) rfl ?_
  refine j_sub [2, 3, 4, 1, 0] rfl ?_
  exact tX7_livingFounders_L5 X F S p1 p2 F _ 0 0
set_option maxRecDepth 100000 in
set_option maxHeartbeats 4000000 in
theorem kX7_livingFounders {ad : Nat → Nat → Nat} (F : Nat) (S : St) (p1 : Int32) (p2 : Int32) : ∀ b, fX7_livingFounders F S p1 p2 = some b → ∀ l dC dI cy, CT l dC dI cy ad yX7_livingFounders wsX7_livingFounders 3 66 [.ref (ad 6 0), .int p1, .int p2] S (some (.int b)) S :=
  fun b hb l dC dI cy => ct_of (l := l) (dC := dC) (dI := dI) (cy := cy) (outpi S) (by decide) rfl (Nat.le_of_ble_eq_true rfl) rfl (fun X γ => tX7_livingFounders X γ F S p1 p2) b hb
-- X1_open
theorem nX1_open_X1 : ∀ w ∈ u_ws RX1 TX1 8, w ∈ wsX1_open := by decide +kernel
theorem nX1_open_X7 : ∀ w ∈ u_ws RX7 TX7 12, w ∈ wsX1_open := by decide +kernel
theorem wX1_open_f9 : Cond.fieldLink RX1 9 "TwoTongues$Estate" "parts" "[J" ∈ wsX1_open := by decide +kernel
theorem wX1_open_c38 : Cond.constantLong RX1 38 (1000000000000) ∈ wsX1_open := by decide +kernel
theorem wX1_open_f40 : Cond.fieldLink RX1 40 "TwoTongues$Estate" "lapsed" "J" ∈ wsX1_open := by decide +kernel
theorem wX1_open_f28 : Cond.fieldLink RX1 28 "TwoTongues$Estate" "people" "LTwoTongues$People;" ∈ wsX1_open := by decide +kernel
theorem wX1_open_f50 : Cond.fieldLink RX1 50 "TwoTongues$People" "size" "I" ∈ wsX1_open := by decide +kernel
set_option maxRecDepth 100000 in
set_option maxHeartbeats 4000000 in
theorem tX1_open_L41 {ad : Nat → Nat → Nat} (X : Ctx) (F : Nat) (x1 : Int32) (x2 : Int32) (y4 : Int64)   : ∀ (n : Nat) (γ : Nat → Nat) (x6 : Int32) (S : St), JJ X ad γ (RQm X ad 4 90 outev) (fcm outev) 4 90 cX1_open 7 RX1 wsX1_open none (fX1_open_L41 F x1 x2 y4 n x6 S) S 41 [(0, .ref (ad 1 0)), (1, .int x1), (2, .int x2), (4, .long y4), (6, .int x6)] [] := by
  intro n
  induction n with
  | zero => intro _ _ _; exact j_none
  | succ n ih =>
    intro γ x6 S
    rw [show fX1_open_L41 F x1 x2 y4 (n + 1) x6 S = fX1_open_b41 F x1 x2 y4 (fX1_open_L41 F x1 x2 y4 n) x6 S from rfl]
    unfold fX1_open_b41
    refine j_iload 41 4 dX1_open_41 rfl ?_
    refine j_aload_n 43 0 dX1_open_43 rfl rfl ?_
    refine j_getr (c2 := 6) (n2 := 0) 44 0 nX1_open_X1 rfl (by decide) (prs_mem (by decide) (by decide)) (by decide) (by decide) wX1_open_f28 (Or.inl rfl) rfl rfl rfl dX1_open_44 ?_
    refine j_geti 47 6 nX1_open_X7 rfl (by decide) (prs_mem (by decide) (by decide)) (by decide) (by decide) wX1_open_f50 (Or.inl rfl) rfl dX1_open_47 ?_
    refine j_icmp_ge 50 93 dX1_open_50 (by decide) (fun _ => ?_) (fun _ => ?_)
    · exact j_vret 93 rfl dX1_open_93
    · refine j_aload_n 53 0 dX1_open_53 rfl rfl ?_
      refine j_getr (c2 := 6) (n2 := 0) 54 0 nX1_open_X1 rfl (by decide) (prs_mem (by decide) (by decide)) (by decide) (by decide) wX1_open_f28 (Or.inl rfl) rfl rfl rfl dX1_open_54 ?_
      refine j_iload 57 4 dX1_open_57 rfl ?_
      refine j_iload_n 59 1 dX1_open_59 rfl rfl ?_
      refine j_iload_n 60 2 dX1_open_60 rfl rfl ?_
      refine j_callV_pi 61 rfl (by decide) (prs_mem (by decide) (by decide))  [.int x6, .int x1, .int x2] [] gX1_open_X7_isLivingFounder rfl eX7_isLivingFounder ⟨Nat.le_of_ble_eq_true rfl, Nat.le_of_ble_eq_true rfl⟩ rfl rfl (Nat.le_of_ble_eq_true rfl) dX1_open_61 (kX7_isLivingFounder S x6 x1 x2) (fun b_5 γ => ?_)
      refine j_if_eq 64 87 dX1_open_64 (by decide) (fun _ => ?_) (fun _ => ?_)
      · refine j_iinc (v := x6 + 1) (lv2 := [(6, .int (x6 + 1)), (0, .ref (ad 1 0)), (1, .int x1), (2, .int x2), (4, .long y4)]) 87 4 dX1_open_87 rfl rfl (by decide) rfl ?_
        refine j_goto 90 41 dX1_open_90 (by decide) ?_
        refine j_sub [1, 2, 3, 4, 0] rfl ?_
        exact ih _ (x6 + 1) S
      · refine j_aload_n 67 0 dX1_open_67 rfl rfl ?_
        refine j_getr (c2 := 18) (n2 := 0) 68 1 nX1_open_X1 rfl (by decide) (prs_mem (by decide) (by decide)) (by decide) (by decide) wX1_open_f9 (Or.inl rfl) rfl rfl rfl dX1_open_68 ?_
        refine j_iload 71 4 dX1_open_71 rfl ?_
        refine j_lload 73 3 dX1_open_73 rfl ?_
        refine j_last (c := 18) (n := 0) (L := 30) 75 (prs_mem (by decide) (by decide)) (by decide) rfl rfl rfl dX1_open_75 (j_bs (fun S_6 => ?_))
        refine j_aload_n 76 0 dX1_open_76 rfl rfl ?_
        refine j_dup 77 dX1_open_77 rfl ?_
        refine j_getl 78 2 nX1_open_X1 rfl (by decide) (prs_mem (by decide) (by decide)) (by decide) (by decide) wX1_open_f40 (Or.inl rfl) rfl dX1_open_78 ?_
        refine j_lload 81 3 dX1_open_81 rfl ?_
        refine j_lsub 83 dX1_open_83 ?_
        refine j_putl 84 2 nX1_open_X1 rfl (by decide) (prs_mem (by decide) (by decide)) (by decide) (by decide) wX1_open_f40 (Or.inl rfl) tyX1 tyX1_ok nmX1 rfl (by decide) rfl dX1_open_84 (j_bs (fun S_7 => ?_))
        refine j_iinc (v := x6 + 1) (lv2 := [(6, .int (x6 + 1)), (0, .ref (ad 1 0)), (1, .int x1), (2, .int x2), (4, .long y4)]) 87 4 dX1_open_87 rfl rfl (by decide) rfl ?_
        refine j_goto 90 41 dX1_open_90 (by decide) ?_
        refine j_sub [1, 2, 3, 4, 0] rfl ?_
        exact ih _ (x6 + 1) S_7
set_option maxRecDepth 100000 in
set_option maxHeartbeats 4000000 in
theorem tX1_open {ad : Nat → Nat → Nat} (X : Ctx) (γ : Nat → Nat) (F : Nat) (S : St) (p1 : Int32) (p2 : Int32) : JJ X ad γ (RQm X ad 4 90 outev) (fcm outev) 4 90 cX1_open 7 RX1 wsX1_open none (fX1_open F S p1 p2) S 0 [(0, .ref (ad 1 0)), (1, .int p1), (2, .int p2)] [] := by
  unfold fX1_open
  refine j_aload_n 0 0 dX1_open_0 rfl rfl ?_
  refine j_getr (c2 := 18) (n2 := 0) 1 1 nX1_open_X1 rfl (by decide) (prs_mem (by decide) (by decide)) (by decide) (by decide) wX1_open_f9 (Or.inl rfl) rfl rfl rfl dX1_open_1 ?_
  refine j_lconst (v := 0) 4 dX1_open_4 (by decide) ?_
  refine j_callS_ev 5  [.ref (ad 18 0), .long 0] [] gX1_open_J7_fill_d0a16 rfl eJ7_fill_d0a16 ⟨Nat.le_of_ble_eq_true rfl, Nat.le_of_ble_eq_true rfl⟩ rfl rfl (Nat.le_of_ble_eq_true rfl) dX1_open_5 (kJ7_fill_d0a16 F S 0) (fun b_1 γ => ?_)
  refine j_aload_n 8 0 dX1_open_8 rfl rfl ?_
  refine j_ldc2 (v := 1000000000000) 9 dX1_open_9 wX1_open_c38 ?_
  refine j_putl 12 2 nX1_open_X1 rfl (by decide) (prs_mem (by decide) (by decide)) (by decide) (by decide) wX1_open_f40 (Or.inl rfl) tyX1 tyX1_ok nmX1 rfl (by decide) rfl dX1_open_12 (j_bs (fun S_2 => ?_))
  refine j_aload_n 15 0 dX1_open_15 rfl rfl ?_
  refine j_getr (c2 := 6) (n2 := 0) 16 0 nX1_open_X1 rfl (by decide) (prs_mem (by decide) (by decide)) (by decide) (by decide) wX1_open_f28 (Or.inl rfl) rfl rfl rfl dX1_open_16 ?_
  refine j_iload_n 19 1 dX1_open_19 rfl rfl ?_
  refine j_iload_n 20 2 dX1_open_20 rfl rfl ?_
  refine j_callV_pi 21 rfl (by decide) (prs_mem (by decide) (by decide))  [.int p1, .int p2] [] gX1_open_X7_livingFounders rfl eX7_livingFounders ⟨Nat.le_of_ble_eq_true rfl, Nat.le_of_ble_eq_true rfl⟩ rfl rfl (Nat.le_of_ble_eq_true rfl) dX1_open_21 (kX7_livingFounders F S_2 p1 p2) (fun b_3 γ => ?_)
  refine j_istore_n (lv2 := [(3, .int b_3), (0, .ref (ad 1 0)), (1, .int p1), (2, .int p2)]) 24 dX1_open_24 rfl (by decide) rfl ?_
  refine j_iload_n 25 0 dX1_open_25 rfl rfl ?_
  refine j_if_ne 26 30 dX1_open_26 (by decide) (fun _ => ?_) (fun _ => ?_)
  · refine j_ldc2 (v := 1000000000000) 30 dX1_open_30 wX1_open_c38 ?_
    refine j_iload_n 33 0 dX1_open_33 rfl rfl ?_
    refine j_i2l 34 dX1_open_34 ?_
    refine j_ldiv 35 dX1_open_35 ?_
    refine j_bndl (fun y4_4 => ?_)
    refine j_lstore (lv2 := [(4, .long y4_4), (3, .int b_3), (0, .ref (ad 1 0)), (1, .int p1), (2, .int p2)]) 36 dX1_open_36 (by decide) rfl ?_
    refine j_iconst (v := 0) 38 dX1_open_38 (by decide) ?_
    refine j_istore (lv2 := [(6, .int 0), (4, .long y4_4), (3, .int b_3), (0, .ref (ad 1 0)), (1, .int p1), (2, .int p2)]) 39 dX1_open_39 (by decide) rfl ?_
    refine j_sub [3, 4, 5, 1, 0] rfl ?_
    exact tX1_open_L41 X F p1 p2 y4_4 F _ 0 S_2
  · exact j_vret 29 rfl dX1_open_29
set_option maxRecDepth 100000 in
set_option maxHeartbeats 4000000 in
theorem kX1_open {ad : Nat → Nat → Nat} (F : Nat) (S : St) (p1 : Int32) (p2 : Int32) : ∀ b, fX1_open F S p1 p2 = some b → ∀ l dC dI cy, CT l dC dI cy ad yX1_open wsX1_open 4 90 [.ref (ad 1 0), .int p1, .int p2] S (none) b :=
  fun b hb l dC dI cy => ct_of (l := l) (dC := dC) (dI := dI) (cy := cy) outev (by decide) rfl (Nat.le_of_ble_eq_true rfl) rfl (fun X γ => tX1_open X γ F S p1 p2) b hb
-- J7_fill_53178
set_option maxRecDepth 100000 in
set_option maxHeartbeats 4000000 in
theorem tJ7_fill_53178_L5 {ad : Nat → Nat → Nat} (X : Ctx) (F : Nat) (x1 : Int32) (x3 : Int32)   : ∀ (n : Nat) (γ : Nat → Nat) (x2 : Int32) (S : St), JJ X ad γ (RQm X ad 0 0 outev) (fcm outev) 0 0 cJ7_fill_53178 4 RJ7 wsJ7_fill_53178 none (fJ7_fill_53178_L5 F x1 x3 n x2 S) S 5 [(0, .ref (ad 81 0)), (1, .int x1), (2, .int x2), (3, .int x3)] [] := by
  intro n
  induction n with
  | zero => intro _ _ _; exact j_none
  | succ n ih =>
    intro γ x2 S
    rw [show fJ7_fill_53178_L5 F x1 x3 (n + 1) x2 S = fJ7_fill_53178_b5 F x1 x3 (fJ7_fill_53178_L5 F x1 x3 n) x2 S from rfl]
    unfold fJ7_fill_53178_b5
    refine j_iload_n 5 2 dJ7_fill_53178_5 rfl rfl ?_
    refine j_iload_n 6 3 dJ7_fill_53178_6 rfl rfl ?_
    refine j_icmp_ge 7 20 dJ7_fill_53178_7 (by decide) (fun _ => ?_) (fun _ => ?_)
    · exact j_vret 20 rfl dJ7_fill_53178_20
    · refine j_aload_n 10 0 dJ7_fill_53178_10 rfl rfl ?_
      refine j_iload_n 11 2 dJ7_fill_53178_11 rfl rfl ?_
      refine j_iload_n 12 1 dJ7_fill_53178_12 rfl rfl ?_
      refine j_iast (c := 81) (n := 0) (L := 30) 13 (prs_mem (by decide) (by decide)) (by decide) rfl rfl rfl dJ7_fill_53178_13 (j_bs (fun S_2 => ?_))
      refine j_iinc (v := x2 + 1) (lv2 := [(2, .int (x2 + 1)), (0, .ref (ad 81 0)), (1, .int x1), (3, .int x3)]) 14 2 dJ7_fill_53178_14 rfl rfl (by decide) rfl ?_
      refine j_goto 17 5 dJ7_fill_53178_17 (by decide) ?_
      refine j_sub [1, 2, 0, 3] rfl ?_
      exact ih _ (x2 + 1) S_2
set_option maxRecDepth 100000 in
set_option maxHeartbeats 4000000 in
theorem tJ7_fill_53178 {ad : Nat → Nat → Nat} (X : Ctx) (γ : Nat → Nat) (F : Nat) (S : St) (p1 : Int32) : JJ X ad γ (RQm X ad 0 0 outev) (fcm outev) 0 0 cJ7_fill_53178 4 RJ7 wsJ7_fill_53178 none (fJ7_fill_53178 F S p1) S 0 [(0, .ref (ad 81 0)), (1, .int p1)] [] := by
  unfold fJ7_fill_53178
  refine j_iconst (v := 0) 0 dJ7_fill_53178_0 (by decide) ?_
  refine j_istore_n (lv2 := [(2, .int 0), (0, .ref (ad 81 0)), (1, .int p1)]) 1 dJ7_fill_53178_1 rfl (by decide) rfl ?_
  refine j_aload_n 2 1 dJ7_fill_53178_2 rfl rfl ?_
  refine j_alen_iald (c := 81) (n := 0) (L := 30) 3 (prs_mem (by decide) (by decide)) (by decide) rfl rfl rfl dJ7_fill_53178_3 ?_
  refine j_bndi (fun x3_1 => ?_)
  refine j_istore_n (lv2 := [(3, .int x3_1), (2, .int 0), (0, .ref (ad 81 0)), (1, .int p1)]) 4 dJ7_fill_53178_4 rfl (by decide) rfl ?_
  refine j_sub [2, 3, 1, 0] rfl ?_
  exact tJ7_fill_53178_L5 X F p1 x3_1 F _ 0 S
set_option maxRecDepth 100000 in
set_option maxHeartbeats 4000000 in
theorem kJ7_fill_53178 {ad : Nat → Nat → Nat} (F : Nat) (S : St) (p1 : Int32) : ∀ b, fJ7_fill_53178 F S p1 = some b → ∀ l dC dI cy, CT l dC dI cy ad yJ7_fill_53178 wsJ7_fill_53178 0 0 [.ref (ad 81 0), .int p1] S (none) b :=
  fun b hb l dC dI cy => ct_of (l := l) (dC := dC) (dI := dI) (cy := cy) outev (by decide) rfl (Nat.le_of_ble_eq_true rfl) rfl (fun X γ => tJ7_fill_53178 X γ F S p1) b hb
-- X1_send
theorem nX1_send_X1 : ∀ w ∈ u_ws RX1 TX1 8, w ∈ wsX1_send := by decide +kernel
theorem wX1_send_f15 : Cond.fieldLink RX1 15 "TwoTongues$Estate" "firstOf" "[I" ∈ wsX1_send := by decide +kernel
theorem wX1_send_f65 : Cond.fieldLink RX1 65 "TwoTongues$Estate" "parcels" "I" ∈ wsX1_send := by decide +kernel
theorem wX1_send_f22 : Cond.fieldLink RX1 22 "TwoTongues$Estate" "value" "[J" ∈ wsX1_send := by decide +kernel
theorem wX1_send_f19 : Cond.fieldLink RX1 19 "TwoTongues$Estate" "next" "[I" ∈ wsX1_send := by decide +kernel
theorem wX1_send_f25 : Cond.fieldLink RX1 25 "TwoTongues$Estate" "times" "[J" ∈ wsX1_send := by decide +kernel
set_option maxRecDepth 100000 in
set_option maxHeartbeats 4000000 in
theorem tX1_send_L11 {ad : Nat → Nat → Nat} (X : Ctx) (F : Nat) (S : St) (x1 : Int32) (y2 : Int64) (y4 : Int64) (k37 : Int32 → Option St) (k65 : Option St)  (hk37 : ∀ (γ : Nat → Nat) (x6 : Int32), JJ X ad γ (RQm X ad 4 110 outev) (fcm outev) 4 110 cX1_send 8 RX1 wsX1_send none (k37 x6) S 37 [(0, .ref (ad 1 0)), (4, .long y4), (6, .int x6)] []) (hk65 : ∀ (γ : Nat → Nat), JJ X ad γ (RQm X ad 4 110 outev) (fcm outev) 4 110 cX1_send 8 RX1 wsX1_send none (k65) S 65 [(0, .ref (ad 1 0)), (1, .int x1), (2, .long y2), (4, .long y4)] []) : ∀ (n : Nat) (γ : Nat → Nat) (x6 : Int32) (x7 : Int32), JJ X ad γ (RQm X ad 4 110 outev) (fcm outev) 4 110 cX1_send 8 RX1 wsX1_send none (fX1_send_L11 F S x1 y2 y4 k37 k65 n x6 x7) S 11 [(0, .ref (ad 1 0)), (1, .int x1), (2, .long y2), (4, .long y4), (6, .int x6), (7, .int x7)] [] := by
  intro n
  induction n with
  | zero => intro _ _ _; exact j_none
  | succ n ih =>
    intro γ x6 x7
    rw [show fX1_send_L11 F S x1 y2 y4 k37 k65 (n + 1) x6 x7 = fX1_send_b11 F S x1 y2 y4 k37 k65 (fX1_send_L11 F S x1 y2 y4 k37 k65 n) x6 x7 from rfl]
    unfold fX1_send_b11
    refine j_iload 11 5 dX1_send_11 rfl ?_
    refine j_aload_n 13 0 dX1_send_13 rfl rfl ?_
    refine j_geti 14 7 nX1_send_X1 rfl (by decide) (prs_mem (by decide) (by decide)) (by decide) (by decide) wX1_send_f65 (Or.inl rfl) rfl dX1_send_14 ?_
    refine j_icmp_ge 17 65 dX1_send_17 (by decide) (fun _ => ?_) (fun _ => ?_)
    · refine j_sub [0, 1, 2, 3] rfl ?_
      exact hk65 _
    · refine j_iload 20 4 dX1_send_20 rfl ?_
      refine j_if_lt 22 65 dX1_send_22 (by decide) (fun _ => ?_) (fun _ => ?_)
      · refine j_sub [0, 1, 2, 3] rfl ?_
        exact hk65 _
      · refine j_aload_n 25 0 dX1_send_25 rfl rfl ?_
        refine j_getg (j := 1) 26 5 nX1_send_X1 rfl (by decide) (prs_mem (by decide) (by decide)) (by decide) (by decide) wX1_send_f22 (Or.inl rfl) rfl rfl dX1_send_26 ?_
        refine j_iload 29 4 dX1_send_29 rfl ?_
        refine j_lald (c := 83) (n := 0) (L := (gC S)) 31 (prs_mem (by decide) (by decide)) (by decide) rfl rfl rfl dX1_send_31 ?_
        refine j_lload_n 32 2 dX1_send_32 rfl rfl ?_
        refine j_lcmp 33 dX1_send_33 ?_
        refine j_if_ne 34 50 dX1_send_34 (by decide) (fun _ => ?_) (fun _ => ?_)
        · refine j_aload_n 50 0 dX1_send_50 rfl rfl ?_
          refine j_getg (j := 0) 51 4 nX1_send_X1 rfl (by decide) (prs_mem (by decide) (by decide)) (by decide) (by decide) wX1_send_f19 (Or.inl rfl) rfl rfl dX1_send_51 ?_
          refine j_iload 54 4 dX1_send_54 rfl ?_
          refine j_iald (c := 82) (n := 0) (L := (gC S)) 56 (prs_mem (by decide) (by decide)) (by decide) rfl rfl rfl dX1_send_56 ?_
          refine j_bndi (fun x6_2 => ?_)
          refine j_istore (lv2 := [(6, .int x6_2), (0, .ref (ad 1 0)), (1, .int x1), (2, .long y2), (4, .long y4), (7, .int x7)]) 57 dX1_send_57 (by decide) rfl ?_
          refine j_iinc (v := x7 + 1) (lv2 := [(7, .int (x7 + 1)), (6, .int x6_2), (0, .ref (ad 1 0)), (1, .int x1), (2, .long y2), (4, .long y4)]) 59 5 dX1_send_59 rfl rfl (by decide) rfl ?_
          refine j_goto 62 11 dX1_send_62 (by decide) ?_
          refine j_sub [2, 3, 4, 5, 1, 0] rfl ?_
          exact ih _ x6_2 (x7 + 1)
        · refine j_sub [0, 3, 4] rfl ?_
          exact hk37 _ x6
set_option maxRecDepth 100000 in
set_option maxHeartbeats 4000000 in
theorem tX1_send_j65 {ad : Nat → Nat → Nat} (X : Ctx) (γ : Nat → Nat) (F : Nat) (S : St) (x1 : Int32) (y2 : Int64) (y4 : Int64)   : JJ X ad γ (RQm X ad 4 110 outev) (fcm outev) 4 110 cX1_send 8 RX1 wsX1_send none (fX1_send_j65 F S x1 y2 y4) S 65 [(0, .ref (ad 1 0)), (1, .int x1), (2, .long y2), (4, .long y4)] [] := by
  unfold fX1_send_j65
  refine j_aload_n 65 0 dX1_send_65 rfl rfl ?_
  refine j_callV_ev 66 rfl (by decide) (prs_mem (by decide) (by decide))  [] [] gX1_send_X1_makeRoom rfl eX1_makeRoom ⟨Nat.le_of_ble_eq_true rfl, Nat.le_of_ble_eq_true rfl⟩ rfl rfl (Nat.le_of_ble_eq_true rfl) dX1_send_66 (kX1_makeRoom S) (fun b_5 γ => ?_)
  refine j_aload_n 69 0 dX1_send_69 rfl rfl ?_
  refine j_geti 70 7 nX1_send_X1 rfl (by decide) (prs_mem (by decide) (by decide)) (by decide) (by decide) wX1_send_f65 (Or.inl rfl) rfl dX1_send_70 ?_
  refine j_aload_n 73 0 dX1_send_73 rfl rfl ?_
  refine j_getg (j := 0) 74 4 nX1_send_X1 rfl (by decide) (prs_mem (by decide) (by decide)) (by decide) (by decide) wX1_send_f19 (Or.inl rfl) rfl rfl dX1_send_74 ?_
  refine j_alen_iald (c := 82) (n := 0) (L := (gC b_5)) 77 (prs_mem (by decide) (by decide)) (by decide) rfl rfl rfl dX1_send_77 ?_
  refine j_icmp_ge 78 137 dX1_send_78 (by decide) (fun _ => ?_) (fun _ => ?_)
  · exact j_vret 137 rfl dX1_send_137
  · refine j_aload_n 81 0 dX1_send_81 rfl rfl ?_
    refine j_getg (j := 0) 82 4 nX1_send_X1 rfl (by decide) (prs_mem (by decide) (by decide)) (by decide) (by decide) wX1_send_f19 (Or.inl rfl) rfl rfl dX1_send_82 ?_
    refine j_aload_n 85 0 dX1_send_85 rfl rfl ?_
    refine j_geti 86 7 nX1_send_X1 rfl (by decide) (prs_mem (by decide) (by decide)) (by decide) (by decide) wX1_send_f65 (Or.inl rfl) rfl dX1_send_86 ?_
    refine j_aload_n 89 0 dX1_send_89 rfl rfl ?_
    refine j_getr (c2 := 81) (n2 := 0) 90 3 nX1_send_X1 rfl (by decide) (prs_mem (by decide) (by decide)) (by decide) (by decide) wX1_send_f15 (Or.inl rfl) rfl rfl rfl dX1_send_90 ?_
    refine j_iload_n 93 1 dX1_send_93 rfl rfl ?_
    refine j_iald (c := 81) (n := 0) (L := 30) 94 (prs_mem (by decide) (by decide)) (by decide) rfl rfl rfl dX1_send_94 ?_
    refine j_iast (c := 82) (n := 0) (L := (gC b_5)) 95 (prs_mem (by decide) (by decide)) (by decide) rfl rfl rfl dX1_send_95 (j_bs (fun S_6 => ?_))
    refine j_aload_n 96 0 dX1_send_96 rfl rfl ?_
    refine j_getg (j := 1) 97 5 nX1_send_X1 rfl (by decide) (prs_mem (by decide) (by decide)) (by decide) (by decide) wX1_send_f22 (Or.inl rfl) rfl rfl dX1_send_97 ?_
    refine j_aload_n 100 0 dX1_send_100 rfl rfl ?_
    refine j_geti 101 7 nX1_send_X1 rfl (by decide) (prs_mem (by decide) (by decide)) (by decide) (by decide) wX1_send_f65 (Or.inl rfl) rfl dX1_send_101 ?_
    refine j_lload_n 104 2 dX1_send_104 rfl rfl ?_
    refine j_last (c := 83) (n := 0) (L := (gC S_6)) 105 (prs_mem (by decide) (by decide)) (by decide) rfl rfl rfl dX1_send_105 (j_bs (fun S_7 => ?_))
    refine j_aload_n 106 0 dX1_send_106 rfl rfl ?_
    refine j_getg (j := 2) 107 6 nX1_send_X1 rfl (by decide) (prs_mem (by decide) (by decide)) (by decide) (by decide) wX1_send_f25 (Or.inl rfl) rfl rfl dX1_send_107 ?_
    refine j_aload_n 110 0 dX1_send_110 rfl rfl ?_
    refine j_geti 111 7 nX1_send_X1 rfl (by decide) (prs_mem (by decide) (by decide)) (by decide) (by decide) wX1_send_f65 (Or.inl rfl) rfl dX1_send_111 ?_
    refine j_lload 114 3 dX1_send_114 rfl ?_
    refine j_last (c := 84) (n := 0) (L := (gC S_7)) 116 (prs_mem (by decide) (by decide)) (by decide) rfl rfl rfl dX1_send_116 (j_bs (fun S_8 => ?_))
    refine j_aload_n 117 0 dX1_send_117 rfl rfl ?_
    refine j_getr (c2 := 81) (n2 := 0) 118 3 nX1_send_X1 rfl (by decide) (prs_mem (by decide) (by decide)) (by decide) (by decide) wX1_send_f15 (Or.inl rfl) rfl rfl rfl dX1_send_118 ?_
    refine j_iload_n 121 1 dX1_send_121 rfl rfl ?_
    refine j_aload_n 122 0 dX1_send_122 rfl rfl ?_
    refine j_geti 123 7 nX1_send_X1 rfl (by decide) (prs_mem (by decide) (by decide)) (by decide) (by decide) wX1_send_f65 (Or.inl rfl) rfl dX1_send_123 ?_
    refine j_iast (c := 81) (n := 0) (L := 30) 126 (prs_mem (by decide) (by decide)) (by decide) rfl rfl rfl dX1_send_126 (j_bs (fun S_9 => ?_))
    refine j_aload_n 127 0 dX1_send_127 rfl rfl ?_
    refine j_dup 128 dX1_send_128 rfl ?_
    refine j_geti 129 7 nX1_send_X1 rfl (by decide) (prs_mem (by decide) (by decide)) (by decide) (by decide) wX1_send_f65 (Or.inl rfl) rfl dX1_send_129 ?_
    refine j_iconst (v := 1) 132 dX1_send_132 (by decide) ?_
    refine j_iadd 133 dX1_send_133 ?_
    refine j_puti 134 7 nX1_send_X1 rfl (by decide) (prs_mem (by decide) (by decide)) (by decide) (by decide) wX1_send_f65 (Or.inl rfl) tyX1 tyX1_ok nmX1 rfl (by decide) rfl dX1_send_134 (j_bs (fun S_10 => ?_))
    exact j_vret 137 rfl dX1_send_137
set_option maxRecDepth 100000 in
set_option maxHeartbeats 4000000 in
theorem tX1_send {ad : Nat → Nat → Nat} (X : Ctx) (γ : Nat → Nat) (F : Nat) (S : St) (p1 : Int32) (p2 : Int64) (p4 : Int64) : JJ X ad γ (RQm X ad 4 110 outev) (fcm outev) 4 110 cX1_send 8 RX1 wsX1_send none (fX1_send F S p1 p2 p4) S 0 [(0, .ref (ad 1 0)), (1, .int p1), (2, .long p2), (4, .long p4)] [] := by
  unfold fX1_send
  refine j_aload_n 0 0 dX1_send_0 rfl rfl ?_
  refine j_getr (c2 := 81) (n2 := 0) 1 3 nX1_send_X1 rfl (by decide) (prs_mem (by decide) (by decide)) (by decide) (by decide) wX1_send_f15 (Or.inl rfl) rfl rfl rfl dX1_send_1 ?_
  refine j_iload_n 4 1 dX1_send_4 rfl rfl ?_
  refine j_iald (c := 81) (n := 0) (L := 30) 5 (prs_mem (by decide) (by decide)) (by decide) rfl rfl rfl dX1_send_5 ?_
  refine j_bndi (fun x6_1 => ?_)
  refine j_istore (lv2 := [(6, .int x6_1), (0, .ref (ad 1 0)), (1, .int p1), (2, .long p2), (4, .long p4)]) 6 dX1_send_6 (by decide) rfl ?_
  refine j_iconst (v := 0) 8 dX1_send_8 (by decide) ?_
  refine j_istore (lv2 := [(7, .int 0), (6, .int x6_1), (0, .ref (ad 1 0)), (1, .int p1), (2, .long p2), (4, .long p4)]) 9 dX1_send_9 (by decide) rfl ?_
  refine j_sub [2, 3, 4, 5, 1, 0] rfl ?_
  refine tX1_send_L11 X F S p1 p2 p4 _ _ (fun γ x6_3 => ?_) (fun γ => ?_) F _ x6_1 0
  · refine j_aload_n 37 0 dX1_send_37 rfl rfl ?_
    refine j_getg (j := 2) 38 6 nX1_send_X1 rfl (by decide) (prs_mem (by decide) (by decide)) (by decide) (by decide) wX1_send_f25 (Or.inl rfl) rfl rfl dX1_send_38 ?_
    refine j_iload 41 2 dX1_send_41 rfl ?_
    refine j_dup2 43 dX1_send_43 rfl rfl ?_
    refine j_lald (c := 84) (n := 0) (L := (gC S)) 44 (prs_mem (by decide) (by decide)) (by decide) rfl rfl rfl dX1_send_44 ?_
    refine j_lload 45 1 dX1_send_45 rfl ?_
    refine j_ladd 47 dX1_send_47 ?_
    refine j_last (c := 84) (n := 0) (L := (gC S)) 48 (prs_mem (by decide) (by decide)) (by decide) rfl rfl rfl dX1_send_48 (j_bs (fun S_4 => ?_))
    exact j_vret 49 rfl dX1_send_49
  · exact tX1_send_j65 X _ F S p1 p2 p4
set_option maxRecDepth 100000 in
set_option maxHeartbeats 4000000 in
theorem kX1_send {ad : Nat → Nat → Nat} (F : Nat) (S : St) (p1 : Int32) (p2 : Int64) (p4 : Int64) : ∀ b, fX1_send F S p1 p2 p4 = some b → ∀ l dC dI cy, CT l dC dI cy ad yX1_send wsX1_send 4 110 [.ref (ad 1 0), .int p1, .long p2, .long p4] S (none) b :=
  fun b hb l dC dI cy => ct_of (l := l) (dC := dC) (dI := dI) (cy := cy) outev (by decide) rfl (Nat.le_of_ble_eq_true rfl) rfl (fun X γ => tX1_send X γ F S p1 p2 p4) b hb
-- X7_isChild
theorem nX7_isChild_X7 : ∀ w ∈ u_ws RX7 TX7 12, w ∈ wsX7_isChild := by decide +kernel
theorem wX7_isChild_f18 : Cond.fieldLink RX7 18 "TwoTongues$People" "parent" "[I" ∈ wsX7_isChild := by decide +kernel
theorem wX7_isChild_f9 : Cond.fieldLink RX7 9 "TwoTongues$People" "born" "[I" ∈ wsX7_isChild := by decide +kernel
theorem wX7_isChild_f21 : Cond.fieldLink RX7 21 "TwoTongues$People" "otherParent" "[I" ∈ wsX7_isChild := by decide +kernel
set_option maxRecDepth 100000 in
set_option maxHeartbeats 4000000 in
theorem tX7_isChild_j20 {ad : Nat → Nat → Nat} (X : Ctx) (γ : Nat → Nat) (S : St) (x1 : Int32) (x3 : Int32)   : JJ X ad γ (RQm X ad 0 0 (outpi S)) (fcm (outpi S)) 0 0 cX7_isChild 4 RX7 wsX7_isChild (some .boolean) (fX7_isChild_j20 S x1 x3) S 20 [(0, .ref (ad 6 0)), (1, .int x1), (3, .int x3)] [] := by
  unfold fX7_isChild_j20
  refine j_aload_n 20 0 dX7_isChild_20 rfl rfl ?_
  refine j_getr (c2 := 34) (n2 := 0) 21 0 nX7_isChild_X7 rfl (by decide) (prs_mem (by decide) (by decide)) (by decide) (by decide) wX7_isChild_f9 (Or.inl rfl) rfl rfl rfl dX7_isChild_21 ?_
  refine j_iload_n 24 1 dX7_isChild_24 rfl rfl ?_
  refine j_iald (c := 34) (n := 0) (L := 30) 25 (prs_mem (by decide) (by decide)) (by decide) rfl rfl rfl dX7_isChild_25 ?_
  refine j_iload_n 26 2 dX7_isChild_26 rfl rfl ?_
  refine j_icmp_gt 27 34 dX7_isChild_27 (by decide) (fun _ => ?_) (fun _ => ?_)
  · refine j_iconst (v := 0) 34 dX7_isChild_34 (by decide) ?_
    exact j_zret 35 (by decide) rfl dX7_isChild_35
  · refine j_iconst (v := 1) 30 dX7_isChild_30 (by decide) ?_
    refine j_goto 31 35 dX7_isChild_31 (by decide) ?_
    exact j_zret 35 (by decide) rfl dX7_isChild_35
set_option maxRecDepth 100000 in
set_option maxHeartbeats 4000000 in
theorem tX7_isChild {ad : Nat → Nat → Nat} (X : Ctx) (γ : Nat → Nat) (S : St) (p1 : Int32) (p2 : Int32) (p3 : Int32) : JJ X ad γ (RQm X ad 0 0 (outpi S)) (fcm (outpi S)) 0 0 cX7_isChild 4 RX7 wsX7_isChild (some .boolean) (fX7_isChild S p1 p2 p3) S 0 [(0, .ref (ad 6 0)), (1, .int p1), (2, .int p2), (3, .int p3)] [] := by
  unfold fX7_isChild
  refine j_aload_n 0 0 dX7_isChild_0 rfl rfl ?_
  refine j_getr (c2 := 36) (n2 := 0) 1 2 nX7_isChild_X7 rfl (by decide) (prs_mem (by decide) (by decide)) (by decide) (by decide) wX7_isChild_f18 (Or.inl rfl) rfl rfl rfl dX7_isChild_1 ?_
  refine j_iload_n 4 1 dX7_isChild_4 rfl rfl ?_
  refine j_iald (c := 36) (n := 0) (L := 30) 5 (prs_mem (by decide) (by decide)) (by decide) rfl rfl rfl dX7_isChild_5 ?_
  refine j_iload_n 6 2 dX7_isChild_6 rfl rfl ?_
  refine j_icmp_eq 7 20 dX7_isChild_7 (by decide) (fun _ => ?_) (fun _ => ?_)
  · refine j_sub [0, 1, 3] rfl ?_
    exact tX7_isChild_j20 X _ S p1 p3
  · refine j_aload_n 10 0 dX7_isChild_10 rfl rfl ?_
    refine j_getr (c2 := 37) (n2 := 0) 11 3 nX7_isChild_X7 rfl (by decide) (prs_mem (by decide) (by decide)) (by decide) (by decide) wX7_isChild_f21 (Or.inl rfl) rfl rfl rfl dX7_isChild_11 ?_
    refine j_iload_n 14 1 dX7_isChild_14 rfl rfl ?_
    refine j_iald (c := 37) (n := 0) (L := 30) 15 (prs_mem (by decide) (by decide)) (by decide) rfl rfl rfl dX7_isChild_15 ?_
    refine j_iload_n 16 2 dX7_isChild_16 rfl rfl ?_
    refine j_icmp_ne 17 34 dX7_isChild_17 (by decide) (fun _ => ?_) (fun _ => ?_)
    · refine j_iconst (v := 0) 34 dX7_isChild_34 (by decide) ?_
      exact j_zret 35 (by decide) rfl dX7_isChild_35
    · refine j_sub [0, 1, 3] rfl ?_
      exact tX7_isChild_j20 X _ S p1 p3
set_option maxRecDepth 100000 in
set_option maxHeartbeats 4000000 in
theorem kX7_isChild {ad : Nat → Nat → Nat} (S : St) (p1 : Int32) (p2 : Int32) (p3 : Int32) : ∀ b, fX7_isChild S p1 p2 p3 = some b → ∀ l dC dI cy, CT l dC dI cy ad yX7_isChild wsX7_isChild 0 0 [.ref (ad 6 0), .int p1, .int p2, .int p3] S (some (.int b)) S :=
  fun b hb l dC dI cy => ct_of (l := l) (dC := dC) (dI := dI) (cy := cy) (outpi S) (by decide) rfl (Nat.le_of_ble_eq_true rfl) rfl (fun X γ => tX7_isChild X γ S p1 p2 p3) b hb
-- X7_children
theorem nX7_children_X7 : ∀ w ∈ u_ws RX7 TX7 12, w ∈ wsX7_children := by decide +kernel
theorem wX7_children_f43 : Cond.fieldLink RX7 43 "TwoTongues$People" "size" "I" ∈ wsX7_children := by decide +kernel
set_option maxRecDepth 100000 in
set_option maxHeartbeats 4000000 in
theorem tX7_children_L5 {ad : Nat → Nat → Nat} (X : Ctx) (F : Nat) (S : St) (x1 : Int32) (x2 : Int32)   : ∀ (n : Nat) (γ : Nat → Nat) (x3 : Int32) (x4 : Int32), JJ X ad γ (RQm X ad 1 23 (outpi S)) (fcm (outpi S)) 1 23 cX7_children 5 RX7 wsX7_children (some .int) (fX7_children_L5 F S x1 x2 n x3 x4) S 5 [(0, .ref (ad 6 0)), (1, .int x1), (2, .int x2), (3, .int x3), (4, .int x4)] [] := by
  intro n
  induction n with
  | zero => intro _ _ _; exact j_none
  | succ n ih =>
    intro γ x3 x4
    rw [show fX7_children_L5 F S x1 x2 (n + 1) x3 x4 = fX7_children_b5 F S x1 x2 (fX7_children_L5 F S x1 x2 n) x3 x4 from rfl]
    unfold fX7_children_b5
    refine j_iload 5 4 dX7_children_5 rfl ?_
    refine j_aload_n 7 0 dX7_children_7 rfl rfl ?_
    refine j_geti 8 6 nX7_children_X7 rfl (by decide) (prs_mem (by decide) (by decide)) (by decide) (by decide) wX7_children_f43 (Or.inl rfl) rfl dX7_children_8 ?_
    refine j_icmp_ge 11 34 dX7_children_11 (by decide) (fun _ => ?_) (fun _ => ?_)
    · refine j_iload_n 34 3 dX7_children_34 rfl rfl ?_
      exact j_iret 35 rfl dX7_children_35
    · refine j_aload_n 14 0 dX7_children_14 rfl rfl ?_
      refine j_iload 15 4 dX7_children_15 rfl ?_
      refine j_iload_n 17 1 dX7_children_17 rfl rfl ?_
      refine j_iload_n 18 2 dX7_children_18 rfl rfl ?_
      refine j_callV_pi 19 rfl (by decide) (prs_mem (by decide) (by decide))  [.int x4, .int x1, .int x2] [] gX7_children_X7_isChild rfl eX7_isChild ⟨Nat.le_of_ble_eq_true rfl, Nat.le_of_ble_eq_true rfl⟩ rfl rfl (Nat.le_of_ble_eq_true rfl) dX7_children_19 (kX7_isChild S x4 x1 x2) (fun b_1 γ => ?_)
      refine j_if_eq 22 28 dX7_children_22 (by decide) (fun _ => ?_) (fun _ => ?_)
      · refine j_iinc (v := x4 + 1) (lv2 := [(4, .int (x4 + 1)), (0, .ref (ad 6 0)), (1, .int x1), (2, .int x2), (3, .int x3)]) 28 4 dX7_children_28 rfl rfl (by decide) rfl ?_
        refine j_goto 31 5 dX7_children_31 (by decide) ?_
        refine j_sub [1, 2, 3, 4, 0] rfl ?_
        exact ih _ x3 (x4 + 1)
      · refine j_iinc (v := x3 + 1) (lv2 := [(3, .int (x3 + 1)), (0, .ref (ad 6 0)), (1, .int x1), (2, .int x2), (4, .int x4)]) 25 3 dX7_children_25 rfl rfl (by decide) rfl ?_
        refine j_iinc (v := x4 + 1) (lv2 := [(4, .int (x4 + 1)), (3, .int (x3 + 1)), (0, .ref (ad 6 0)), (1, .int x1), (2, .int x2)]) 28 4 dX7_children_28 rfl rfl (by decide) rfl ?_
        refine j_goto 31 5 dX7_children_31 (by decide) ?_
        refine j_sub [2, 3, 4, 1, 0] rfl ?_
        exact ih _ (x3 + 1) (x4 + 1)
set_option maxRecDepth 100000 in
set_option maxHeartbeats 4000000 in
theorem tX7_children {ad : Nat → Nat → Nat} (X : Ctx) (γ : Nat → Nat) (F : Nat) (S : St) (p1 : Int32) (p2 : Int32) : JJ X ad γ (RQm X ad 1 23 (outpi S)) (fcm (outpi S)) 1 23 cX7_children 5 RX7 wsX7_children (some .int) (fX7_children F S p1 p2) S 0 [(0, .ref (ad 6 0)), (1, .int p1), (2, .int p2)] [] := by
  unfold fX7_children
  refine j_iconst (v := 0) 0 dX7_children_0 (by decide) ?_
  refine j_istore_n (lv2 := [(3, .int 0), (0, .ref (ad 6 0)), (1, .int p1), (2, .int p2)]) 1 dX7_children_1 rfl (by decide) rfl ?_
  refine j_iconst (v := 0) 2 dX7_children_2 (by decide) ?_
  refine j_istore (lv2 := [(4, .int 0), (3, .int 0), (0, .ref (ad 6 0)), (1, .int p1), (2, .int p2)]) 3 dX7_children_3 (by decide) rfl ?_
  refine j_sub [2, 3, 4, 1, 0] rfl ?_
  exact tX7_children_L5 X F S p1 p2 F _ 0 0
set_option maxRecDepth 100000 in
set_option maxHeartbeats 4000000 in
theorem kX7_children {ad : Nat → Nat → Nat} (F : Nat) (S : St) (p1 : Int32) (p2 : Int32) : ∀ b, fX7_children F S p1 p2 = some b → ∀ l dC dI cy, CT l dC dI cy ad yX7_children wsX7_children 1 23 [.ref (ad 6 0), .int p1, .int p2] S (some (.int b)) S :=
  fun b hb l dC dI cy => ct_of (l := l) (dC := dC) (dI := dI) (cy := cy) (outpi S) (by decide) rfl (Nat.le_of_ble_eq_true rfl) rfl (fun X γ => tX7_children X γ F S p1 p2) b hb
-- X1_cut
theorem nX1_cut_X1 : ∀ w ∈ u_ws RX1 TX1 8, w ∈ wsX1_cut := by decide +kernel
theorem wX1_cut_f15 : Cond.fieldLink RX1 15 "TwoTongues$Estate" "firstOf" "[I" ∈ wsX1_cut := by decide +kernel
theorem wX1_cut_f65 : Cond.fieldLink RX1 65 "TwoTongues$Estate" "parcels" "I" ∈ wsX1_cut := by decide +kernel
theorem wX1_cut_f22 : Cond.fieldLink RX1 22 "TwoTongues$Estate" "value" "[J" ∈ wsX1_cut := by decide +kernel
theorem wX1_cut_f40 : Cond.fieldLink RX1 40 "TwoTongues$Estate" "lapsed" "J" ∈ wsX1_cut := by decide +kernel
theorem wX1_cut_f25 : Cond.fieldLink RX1 25 "TwoTongues$Estate" "times" "[J" ∈ wsX1_cut := by decide +kernel
theorem wX1_cut_f19 : Cond.fieldLink RX1 19 "TwoTongues$Estate" "next" "[I" ∈ wsX1_cut := by decide +kernel
set_option maxRecDepth 100000 in
set_option maxHeartbeats 4000000 in
theorem tX1_cut_j40 {ad : Nat → Nat → Nat} (X : Ctx) (γ : Nat → Nat) (F : Nat) (S : St) (x2 : Int32) (x3 : Int32) (x4 : Int32) (s0 : Int64) (rec : Int32 → Int32 → St → Option St)  (ih : ∀ (γ : Nat → Nat) (x3 : Int32) (x4 : Int32) (S : St), JJ X ad γ (RQm X ad 0 0 outev) (fcm outev) 0 0 cX1_cut 7 RX1 wsX1_cut none (rec x3 x4 S) S 10 [(0, .ref (ad 1 0)), (2, .int x2), (3, .int x3), (4, .int x4)] []) : JJ X ad γ (RQm X ad 0 0 outev) (fcm outev) 0 0 cX1_cut 7 RX1 wsX1_cut none (fX1_cut_j40 F S x2 x3 x4 s0 rec) S 40 [(0, .ref (ad 1 0)), (2, .int x2), (3, .int x3), (4, .int x4)] [.long s0] := by
  unfold fX1_cut_j40
  refine j_lstore (lv2 := [(5, .long s0), (0, .ref (ad 1 0)), (2, .int x2), (3, .int x3), (4, .int x4)]) 40 dX1_cut_40 (by decide) rfl ?_
  refine j_aload_n 42 1 dX1_cut_42 rfl rfl ?_
  refine j_dup 43 dX1_cut_43 rfl ?_
  refine j_getl 44 2 nX1_cut_X1 rfl (by decide) (prs_mem (by decide) (by decide)) (by decide) (by decide) wX1_cut_f40 (Or.inl rfl) rfl dX1_cut_44 ?_
  refine j_aload_n 47 1 dX1_cut_47 rfl rfl ?_
  refine j_getg (j := 1) 48 5 nX1_cut_X1 rfl (by decide) (prs_mem (by decide) (by decide)) (by decide) (by decide) wX1_cut_f22 (Or.inl rfl) rfl rfl dX1_cut_48 ?_
  refine j_iload_n 51 3 dX1_cut_51 rfl rfl ?_
  refine j_lald (c := 83) (n := 0) (L := (gC S)) 52 (prs_mem (by decide) (by decide)) (by decide) rfl rfl rfl dX1_cut_52 ?_
  refine j_lload 53 0 dX1_cut_53 rfl ?_
  refine j_iload_n 55 2 dX1_cut_55 rfl rfl ?_
  refine j_i2l 56 dX1_cut_56 ?_
  refine j_lmul 57 dX1_cut_57 ?_
  refine j_lsub 58 dX1_cut_58 ?_
  refine j_aload_n 59 1 dX1_cut_59 rfl rfl ?_
  refine j_getg (j := 2) 60 6 nX1_cut_X1 rfl (by decide) (prs_mem (by decide) (by decide)) (by decide) (by decide) wX1_cut_f25 (Or.inl rfl) rfl rfl dX1_cut_60 ?_
  refine j_iload_n 63 3 dX1_cut_63 rfl rfl ?_
  refine j_lald (c := 84) (n := 0) (L := (gC S)) 64 (prs_mem (by decide) (by decide)) (by decide) rfl rfl rfl dX1_cut_64 ?_
  refine j_lmul 65 dX1_cut_65 ?_
  refine j_ladd 66 dX1_cut_66 ?_
  refine j_putl 67 2 nX1_cut_X1 rfl (by decide) (prs_mem (by decide) (by decide)) (by decide) (by decide) wX1_cut_f40 (Or.inl rfl) tyX1 tyX1_ok nmX1 rfl (by decide) rfl dX1_cut_67 (j_bs (fun S_2 => ?_))
  refine j_aload_n 70 1 dX1_cut_70 rfl rfl ?_
  refine j_getg (j := 1) 71 5 nX1_cut_X1 rfl (by decide) (prs_mem (by decide) (by decide)) (by decide) (by decide) wX1_cut_f22 (Or.inl rfl) rfl rfl dX1_cut_71 ?_
  refine j_iload_n 74 3 dX1_cut_74 rfl rfl ?_
  refine j_lload 75 0 dX1_cut_75 rfl ?_
  refine j_last (c := 83) (n := 0) (L := (gC S_2)) 77 (prs_mem (by decide) (by decide)) (by decide) rfl rfl rfl dX1_cut_77 (j_bs (fun S_3 => ?_))
  refine j_aload_n 78 1 dX1_cut_78 rfl rfl ?_
  refine j_getg (j := 0) 79 4 nX1_cut_X1 rfl (by decide) (prs_mem (by decide) (by decide)) (by decide) (by decide) wX1_cut_f19 (Or.inl rfl) rfl rfl dX1_cut_79 ?_
  refine j_iload_n 82 3 dX1_cut_82 rfl rfl ?_
  refine j_iald (c := 82) (n := 0) (L := (gC S_3)) 83 (prs_mem (by decide) (by decide)) (by decide) rfl rfl rfl dX1_cut_83 ?_
  refine j_bndi (fun x3_4 => ?_)
  refine j_istore_n (lv2 := [(3, .int x3_4), (5, .long s0), (0, .ref (ad 1 0)), (2, .int x2), (4, .int x4)]) 84 dX1_cut_84 rfl (by decide) rfl ?_
  refine j_iinc (v := x4 + 1) (lv2 := [(4, .int (x4 + 1)), (3, .int x3_4), (5, .long s0), (0, .ref (ad 1 0)), (2, .int x2)]) 85 4 dX1_cut_85 rfl rfl (by decide) rfl ?_
  refine j_goto 88 10 dX1_cut_88 (by decide) ?_
  refine j_sub [3, 4, 1, 0] rfl ?_
  exact ih _ x3_4 (x4 + 1) S_3
set_option maxRecDepth 100000 in
set_option maxHeartbeats 4000000 in
theorem tX1_cut_L10 {ad : Nat → Nat → Nat} (X : Ctx) (F : Nat) (x2 : Int32)   : ∀ (n : Nat) (γ : Nat → Nat) (x3 : Int32) (x4 : Int32) (S : St), JJ X ad γ (RQm X ad 0 0 outev) (fcm outev) 0 0 cX1_cut 7 RX1 wsX1_cut none (fX1_cut_L10 F x2 n x3 x4 S) S 10 [(0, .ref (ad 1 0)), (2, .int x2), (3, .int x3), (4, .int x4)] [] := by
  intro n
  induction n with
  | zero => intro _ _ _ _; exact j_none
  | succ n ih =>
    intro γ x3 x4 S
    rw [show fX1_cut_L10 F x2 (n + 1) x3 x4 S = fX1_cut_b10 F x2 (fX1_cut_L10 F x2 n) x3 x4 S from rfl]
    unfold fX1_cut_b10
    refine j_iload 10 3 dX1_cut_10 rfl ?_
    refine j_aload_n 12 0 dX1_cut_12 rfl rfl ?_
    refine j_geti 13 7 nX1_cut_X1 rfl (by decide) (prs_mem (by decide) (by decide)) (by decide) (by decide) wX1_cut_f65 (Or.inl rfl) rfl dX1_cut_13 ?_
    refine j_icmp_ge 16 91 dX1_cut_16 (by decide) (fun _ => ?_) (fun _ => ?_)
    · exact j_vret 91 rfl dX1_cut_91
    · refine j_iload_n 19 2 dX1_cut_19 rfl rfl ?_
      refine j_if_lt 20 91 dX1_cut_20 (by decide) (fun _ => ?_) (fun _ => ?_)
      · exact j_vret 91 rfl dX1_cut_91
      · refine j_iload_n 23 1 dX1_cut_23 rfl rfl ?_
        refine j_if_ne 24 31 dX1_cut_24 (by decide) (fun _ => ?_) (fun _ => ?_)
        · refine j_aload_n 31 0 dX1_cut_31 rfl rfl ?_
          refine j_getg (j := 1) 32 5 nX1_cut_X1 rfl (by decide) (prs_mem (by decide) (by decide)) (by decide) (by decide) wX1_cut_f22 (Or.inl rfl) rfl rfl dX1_cut_32 ?_
          refine j_iload_n 35 2 dX1_cut_35 rfl rfl ?_
          refine j_lald (c := 83) (n := 0) (L := (gC S)) 36 (prs_mem (by decide) (by decide)) (by decide) rfl rfl rfl dX1_cut_36 ?_
          refine j_iload_n 37 1 dX1_cut_37 rfl rfl ?_
          refine j_i2l 38 dX1_cut_38 ?_
          refine j_ldiv 39 dX1_cut_39 ?_
          exact tX1_cut_j40 X _ F S x2 x3 x4 ((gB S 83 0 x3.toNatClampNeg) / x2.toInt64) _ ih
        · refine j_lconst (v := 0) 27 dX1_cut_27 (by decide) ?_
          refine j_goto 28 40 dX1_cut_28 (by decide) ?_
          exact tX1_cut_j40 X _ F S x2 x3 x4 0 _ ih
set_option maxRecDepth 100000 in
set_option maxHeartbeats 4000000 in
theorem tX1_cut {ad : Nat → Nat → Nat} (X : Ctx) (γ : Nat → Nat) (F : Nat) (S : St) (p1 : Int32) (p2 : Int32) : JJ X ad γ (RQm X ad 0 0 outev) (fcm outev) 0 0 cX1_cut 7 RX1 wsX1_cut none (fX1_cut F S p1 p2) S 0 [(0, .ref (ad 1 0)), (1, .int p1), (2, .int p2)] [] := by
  unfold fX1_cut
  refine j_aload_n 0 0 dX1_cut_0 rfl rfl ?_
  refine j_getr (c2 := 81) (n2 := 0) 1 3 nX1_cut_X1 rfl (by decide) (prs_mem (by decide) (by decide)) (by decide) (by decide) wX1_cut_f15 (Or.inl rfl) rfl rfl rfl dX1_cut_1 ?_
  refine j_iload_n 4 1 dX1_cut_4 rfl rfl ?_
  refine j_iald (c := 81) (n := 0) (L := 30) 5 (prs_mem (by decide) (by decide)) (by decide) rfl rfl rfl dX1_cut_5 ?_
  refine j_bndi (fun x3_1 => ?_)
  refine j_istore_n (lv2 := [(3, .int x3_1), (0, .ref (ad 1 0)), (1, .int p1), (2, .int p2)]) 6 dX1_cut_6 rfl (by decide) rfl ?_
  refine j_iconst (v := 0) 7 dX1_cut_7 (by decide) ?_
  refine j_istore (lv2 := [(4, .int 0), (3, .int x3_1), (0, .ref (ad 1 0)), (1, .int p1), (2, .int p2)]) 8 dX1_cut_8 (by decide) rfl ?_
  refine j_sub [2, 4, 1, 0] rfl ?_
  exact tX1_cut_L10 X F p2 F _ x3_1 0 S
set_option maxRecDepth 100000 in
set_option maxHeartbeats 4000000 in
theorem kX1_cut {ad : Nat → Nat → Nat} (F : Nat) (S : St) (p1 : Int32) (p2 : Int32) : ∀ b, fX1_cut F S p1 p2 = some b → ∀ l dC dI cy, CT l dC dI cy ad yX1_cut wsX1_cut 0 0 [.ref (ad 1 0), .int p1, .int p2] S (none) b :=
  fun b hb l dC dI cy => ct_of (l := l) (dC := dC) (dI := dI) (cy := cy) outev (by decide) rfl (Nat.le_of_ble_eq_true rfl) rfl (fun X γ => tX1_cut X γ F S p1 p2) b hb
-- X1_sendAll
theorem nX1_sendAll_X1 : ∀ w ∈ u_ws RX1 TX1 8, w ∈ wsX1_sendAll := by decide +kernel
theorem wX1_sendAll_f65 : Cond.fieldLink RX1 65 "TwoTongues$Estate" "parcels" "I" ∈ wsX1_sendAll := by decide +kernel
theorem wX1_sendAll_f15 : Cond.fieldLink RX1 15 "TwoTongues$Estate" "firstOf" "[I" ∈ wsX1_sendAll := by decide +kernel
theorem wX1_sendAll_f22 : Cond.fieldLink RX1 22 "TwoTongues$Estate" "value" "[J" ∈ wsX1_sendAll := by decide +kernel
theorem wX1_sendAll_f25 : Cond.fieldLink RX1 25 "TwoTongues$Estate" "times" "[J" ∈ wsX1_sendAll := by decide +kernel
theorem wX1_sendAll_f19 : Cond.fieldLink RX1 19 "TwoTongues$Estate" "next" "[I" ∈ wsX1_sendAll := by decide +kernel
set_option maxRecDepth 100000 in
set_option maxHeartbeats 4000000 in
theorem tX1_sendAll_L16 {ad : Nat → Nat → Nat} (X : Ctx) (F : Nat) (x2 : Int32) (x3 : Int32)   : ∀ (n : Nat) (γ : Nat → Nat) (x4 : Int32) (x5 : Int32) (S : St), JJ X ad γ (RQm X ad 5 137 outev) (fcm outev) 5 137 cX1_sendAll 6 RX1 wsX1_sendAll none (fX1_sendAll_L16 F x2 x3 n x4 x5 S) S 16 [(0, .ref (ad 1 0)), (2, .int x2), (3, .int x3), (4, .int x4), (5, .int x5)] [] := by
  intro n
  induction n with
  | zero => intro _ _ _ _; exact j_none
  | succ n ih =>
    intro γ x4 x5 S
    rw [show fX1_sendAll_L16 F x2 x3 (n + 1) x4 x5 S = fX1_sendAll_b16 F x2 x3 (fX1_sendAll_L16 F x2 x3 n) x4 x5 S from rfl]
    unfold fX1_sendAll_b16
    refine j_iload 16 4 dX1_sendAll_16 rfl ?_
    refine j_iload_n 18 2 dX1_sendAll_18 rfl rfl ?_
    refine j_icmp_ge 19 61 dX1_sendAll_19 (by decide) (fun _ => ?_) (fun _ => ?_)
    · exact j_vret 61 rfl dX1_sendAll_61
    · refine j_iload 22 3 dX1_sendAll_22 rfl ?_
      refine j_if_lt 24 61 dX1_sendAll_24 (by decide) (fun _ => ?_) (fun _ => ?_)
      · exact j_vret 61 rfl dX1_sendAll_61
      · refine j_aload_n 27 0 dX1_sendAll_27 rfl rfl ?_
        refine j_iload_n 28 1 dX1_sendAll_28 rfl rfl ?_
        refine j_aload_n 29 0 dX1_sendAll_29 rfl rfl ?_
        refine j_getg (j := 1) 30 5 nX1_sendAll_X1 rfl (by decide) (prs_mem (by decide) (by decide)) (by decide) (by decide) wX1_sendAll_f22 (Or.inl rfl) rfl rfl dX1_sendAll_30 ?_
        refine j_iload 33 3 dX1_sendAll_33 rfl ?_
        refine j_lald (c := 83) (n := 0) (L := (gC S)) 35 (prs_mem (by decide) (by decide)) (by decide) rfl rfl rfl dX1_sendAll_35 ?_
        refine j_aload_n 36 0 dX1_sendAll_36 rfl rfl ?_
        refine j_getg (j := 2) 37 6 nX1_sendAll_X1 rfl (by decide) (prs_mem (by decide) (by decide)) (by decide) (by decide) wX1_sendAll_f25 (Or.inl rfl) rfl rfl dX1_sendAll_37 ?_
        refine j_iload 40 3 dX1_sendAll_40 rfl ?_
        refine j_lald (c := 84) (n := 0) (L := (gC S)) 42 (prs_mem (by decide) (by decide)) (by decide) rfl rfl rfl dX1_sendAll_42 ?_
        refine j_callV_ev 43 rfl (by decide) (prs_mem (by decide) (by decide))  [.int x2, .long (gB S 83 0 x4.toNatClampNeg), .long (gB S 84 0 x4.toNatClampNeg)] [] gX1_sendAll_X1_send rfl eX1_send ⟨Nat.le_of_ble_eq_true rfl, Nat.le_of_ble_eq_true rfl⟩ rfl rfl (Nat.le_of_ble_eq_true rfl) dX1_sendAll_43 (kX1_send F S x2 (gB S 83 0 x4.toNatClampNeg) (gB S 84 0 x4.toNatClampNeg)) (fun b_3 γ => ?_)
        refine j_aload_n 46 0 dX1_sendAll_46 rfl rfl ?_
        refine j_getg (j := 0) 47 4 nX1_sendAll_X1 rfl (by decide) (prs_mem (by decide) (by decide)) (by decide) (by decide) wX1_sendAll_f19 (Or.inl rfl) rfl rfl dX1_sendAll_47 ?_
        refine j_iload 50 3 dX1_sendAll_50 rfl ?_
        refine j_iald (c := 82) (n := 0) (L := (gC b_3)) 52 (prs_mem (by decide) (by decide)) (by decide) rfl rfl rfl dX1_sendAll_52 ?_
        refine j_bndi (fun x4_4 => ?_)
        refine j_istore (lv2 := [(4, .int x4_4), (0, .ref (ad 1 0)), (2, .int x2), (3, .int x3), (5, .int x5)]) 53 dX1_sendAll_53 (by decide) rfl ?_
        refine j_iinc (v := x5 + 1) (lv2 := [(5, .int (x5 + 1)), (4, .int x4_4), (0, .ref (ad 1 0)), (2, .int x2), (3, .int x3)]) 55 4 dX1_sendAll_55 rfl rfl (by decide) rfl ?_
        refine j_goto 58 16 dX1_sendAll_58 (by decide) ?_
        refine j_sub [2, 3, 4, 1, 0] rfl ?_
        exact ih _ x4_4 (x5 + 1) b_3
set_option maxRecDepth 100000 in
set_option maxHeartbeats 4000000 in
theorem tX1_sendAll {ad : Nat → Nat → Nat} (X : Ctx) (γ : Nat → Nat) (F : Nat) (S : St) (p1 : Int32) (p2 : Int32) : JJ X ad γ (RQm X ad 5 137 outev) (fcm outev) 5 137 cX1_sendAll 6 RX1 wsX1_sendAll none (fX1_sendAll F S p1 p2) S 0 [(0, .ref (ad 1 0)), (1, .int p1), (2, .int p2)] [] := by
  unfold fX1_sendAll
  refine j_aload_n 0 0 dX1_sendAll_0 rfl rfl ?_
  refine j_geti 1 7 nX1_sendAll_X1 rfl (by decide) (prs_mem (by decide) (by decide)) (by decide) (by decide) wX1_sendAll_f65 (Or.inl rfl) rfl dX1_sendAll_1 ?_
  refine j_bndi (fun x3_1 => ?_)
  refine j_istore_n (lv2 := [(3, .int x3_1), (0, .ref (ad 1 0)), (1, .int p1), (2, .int p2)]) 4 dX1_sendAll_4 rfl (by decide) rfl ?_
  refine j_aload_n 5 1 dX1_sendAll_5 rfl rfl ?_
  refine j_getr (c2 := 81) (n2 := 0) 6 3 nX1_sendAll_X1 rfl (by decide) (prs_mem (by decide) (by decide)) (by decide) (by decide) wX1_sendAll_f15 (Or.inl rfl) rfl rfl rfl dX1_sendAll_6 ?_
  refine j_iload_n 9 2 dX1_sendAll_9 rfl rfl ?_
  refine j_iald (c := 81) (n := 0) (L := 30) 10 (prs_mem (by decide) (by decide)) (by decide) rfl rfl rfl dX1_sendAll_10 ?_
  refine j_bndi (fun x4_2 => ?_)
  refine j_istore (lv2 := [(4, .int x4_2), (3, .int x3_1), (0, .ref (ad 1 0)), (1, .int p1), (2, .int p2)]) 11 dX1_sendAll_11 (by decide) rfl ?_
  refine j_iconst (v := 0) 13 dX1_sendAll_13 (by decide) ?_
  refine j_istore (lv2 := [(5, .int 0), (4, .int x4_2), (3, .int x3_1), (0, .ref (ad 1 0)), (1, .int p1), (2, .int p2)]) 14 dX1_sendAll_14 (by decide) rfl ?_
  refine j_sub [3, 5, 2, 1, 0] rfl ?_
  exact tX1_sendAll_L16 X F p2 x3_1 F _ x4_2 0 S
set_option maxRecDepth 100000 in
set_option maxHeartbeats 4000000 in
theorem kX1_sendAll {ad : Nat → Nat → Nat} (F : Nat) (S : St) (p1 : Int32) (p2 : Int32) : ∀ b, fX1_sendAll F S p1 p2 = some b → ∀ l dC dI cy, CT l dC dI cy ad yX1_sendAll wsX1_sendAll 5 137 [.ref (ad 1 0), .int p1, .int p2] S (none) b :=
  fun b hb l dC dI cy => ct_of (l := l) (dC := dC) (dI := dI) (cy := cy) outev (by decide) rfl (Nat.le_of_ble_eq_true rfl) rfl (fun X γ => tX1_sendAll X γ F S p1 p2) b hb
-- X1_handOn
theorem nX1_handOn_X1 : ∀ w ∈ u_ws RX1 TX1 8, w ∈ wsX1_handOn := by decide +kernel
theorem nX1_handOn_X7 : ∀ w ∈ u_ws RX7 TX7 12, w ∈ wsX1_handOn := by decide +kernel
theorem wX1_handOn_f28 : Cond.fieldLink RX1 28 "TwoTongues$Estate" "people" "LTwoTongues$People;" ∈ wsX1_handOn := by decide +kernel
theorem wX1_handOn_f50 : Cond.fieldLink RX1 50 "TwoTongues$People" "size" "I" ∈ wsX1_handOn := by decide +kernel
set_option maxRecDepth 100000 in
set_option maxHeartbeats 4000000 in
theorem tX1_handOn_L4 {ad : Nat → Nat → Nat} (X : Ctx) (F : Nat) (x1 : Int32) (x2 : Int32)   : ∀ (n : Nat) (γ : Nat → Nat) (x3 : Int32) (S : St), JJ X ad γ (RQm X ad 6 162 outev) (fcm outev) 6 162 cX1_handOn 4 RX1 wsX1_handOn none (fX1_handOn_L4 F x1 x2 n x3 S) S 4 [(0, .ref (ad 1 0)), (1, .int x1), (2, .int x2), (3, .int x3)] [] := by
  intro n
  induction n with
  | zero => intro _ _ _; exact j_none
  | succ n ih =>
    intro γ x3 S
    rw [show fX1_handOn_L4 F x1 x2 (n + 1) x3 S = fX1_handOn_b4 F x1 x2 (fX1_handOn_L4 F x1 x2 n) x3 S from rfl]
    unfold fX1_handOn_b4
    refine j_iload_n 4 3 dX1_handOn_4 rfl rfl ?_
    refine j_aload_n 5 0 dX1_handOn_5 rfl rfl ?_
    refine j_getr (c2 := 6) (n2 := 0) 6 0 nX1_handOn_X1 rfl (by decide) (prs_mem (by decide) (by decide)) (by decide) (by decide) wX1_handOn_f28 (Or.inl rfl) rfl rfl rfl dX1_handOn_6 ?_
    refine j_geti 9 6 nX1_handOn_X7 rfl (by decide) (prs_mem (by decide) (by decide)) (by decide) (by decide) wX1_handOn_f50 (Or.inl rfl) rfl dX1_handOn_9 ?_
    refine j_icmp_ge 12 40 dX1_handOn_12 (by decide) (fun _ => ?_) (fun _ => ?_)
    · exact j_vret 40 rfl dX1_handOn_40
    · refine j_aload_n 15 0 dX1_handOn_15 rfl rfl ?_
      refine j_getr (c2 := 6) (n2 := 0) 16 0 nX1_handOn_X1 rfl (by decide) (prs_mem (by decide) (by decide)) (by decide) (by decide) wX1_handOn_f28 (Or.inl rfl) rfl rfl rfl dX1_handOn_16 ?_
      refine j_iload_n 19 3 dX1_handOn_19 rfl rfl ?_
      refine j_iload_n 20 1 dX1_handOn_20 rfl rfl ?_
      refine j_iload_n 21 2 dX1_handOn_21 rfl rfl ?_
      refine j_callV_pi 22 rfl (by decide) (prs_mem (by decide) (by decide))  [.int x3, .int x1, .int x2] [] gX1_handOn_X7_isChild rfl eX7_isChild ⟨Nat.le_of_ble_eq_true rfl, Nat.le_of_ble_eq_true rfl⟩ rfl rfl (Nat.le_of_ble_eq_true rfl) dX1_handOn_22 (kX7_isChild S x3 x1 x2) (fun b_2 γ => ?_)
      refine j_if_eq 25 34 dX1_handOn_25 (by decide) (fun _ => ?_) (fun _ => ?_)
      · refine j_iinc (v := x3 + 1) (lv2 := [(3, .int (x3 + 1)), (0, .ref (ad 1 0)), (1, .int x1), (2, .int x2)]) 34 3 dX1_handOn_34 rfl rfl (by decide) rfl ?_
        refine j_goto 37 4 dX1_handOn_37 (by decide) ?_
        refine j_sub [1, 2, 3, 0] rfl ?_
        exact ih _ (x3 + 1) S
      · refine j_aload_n 28 0 dX1_handOn_28 rfl rfl ?_
        refine j_iload_n 29 1 dX1_handOn_29 rfl rfl ?_
        refine j_iload_n 30 3 dX1_handOn_30 rfl rfl ?_
        refine j_callV_ev 31 rfl (by decide) (prs_mem (by decide) (by decide))  [.int x1, .int x3] [] gX1_handOn_X1_sendAll rfl eX1_sendAll ⟨Nat.le_of_ble_eq_true rfl, Nat.le_of_ble_eq_true rfl⟩ rfl rfl (Nat.le_of_ble_eq_true rfl) dX1_handOn_31 (kX1_sendAll F S x1 x3) (fun b_3 γ => ?_)
        refine j_iinc (v := x3 + 1) (lv2 := [(3, .int (x3 + 1)), (0, .ref (ad 1 0)), (1, .int x1), (2, .int x2)]) 34 3 dX1_handOn_34 rfl rfl (by decide) rfl ?_
        refine j_goto 37 4 dX1_handOn_37 (by decide) ?_
        refine j_sub [1, 2, 3, 0] rfl ?_
        exact ih _ (x3 + 1) b_3
set_option maxRecDepth 100000 in
set_option maxHeartbeats 4000000 in
theorem tX1_handOn {ad : Nat → Nat → Nat} (X : Ctx) (γ : Nat → Nat) (F : Nat) (S : St) (p1 : Int32) (p2 : Int32) : JJ X ad γ (RQm X ad 6 162 outev) (fcm outev) 6 162 cX1_handOn 4 RX1 wsX1_handOn none (fX1_handOn F S p1 p2) S 0 [(0, .ref (ad 1 0)), (1, .int p1), (2, .int p2)] [] := by
  unfold fX1_handOn
  refine j_iload_n 0 1 dX1_handOn_0 rfl rfl ?_
  refine j_iconst (v := 1) 1 dX1_handOn_1 (by decide) ?_
  refine j_iadd 2 dX1_handOn_2 ?_
  refine j_bndi (fun x3_1 => ?_)
  refine j_istore_n (lv2 := [(3, .int x3_1), (0, .ref (ad 1 0)), (1, .int p1), (2, .int p2)]) 3 dX1_handOn_3 rfl (by decide) rfl ?_
  refine j_sub [1, 2, 3, 0] rfl ?_
  exact tX1_handOn_L4 X F p1 p2 F _ x3_1 S
set_option maxRecDepth 100000 in
set_option maxHeartbeats 4000000 in
theorem kX1_handOn {ad : Nat → Nat → Nat} (F : Nat) (S : St) (p1 : Int32) (p2 : Int32) : ∀ b, fX1_handOn F S p1 p2 = some b → ∀ l dC dI cy, CT l dC dI cy ad yX1_handOn wsX1_handOn 6 162 [.ref (ad 1 0), .int p1, .int p2] S (none) b :=
  fun b hb l dC dI cy => ct_of (l := l) (dC := dC) (dI := dI) (cy := cy) outev (by decide) rfl (Nat.le_of_ble_eq_true rfl) rfl (fun X γ => tX1_handOn X γ F S p1 p2) b hb
-- X1_keep
theorem nX1_keep_X1 : ∀ w ∈ u_ws RX1 TX1 8, w ∈ wsX1_keep := by decide +kernel
theorem wX1_keep_f15 : Cond.fieldLink RX1 15 "TwoTongues$Estate" "firstOf" "[I" ∈ wsX1_keep := by decide +kernel
theorem wX1_keep_f65 : Cond.fieldLink RX1 65 "TwoTongues$Estate" "parcels" "I" ∈ wsX1_keep := by decide +kernel
theorem wX1_keep_f9 : Cond.fieldLink RX1 9 "TwoTongues$Estate" "parts" "[J" ∈ wsX1_keep := by decide +kernel
theorem wX1_keep_f22 : Cond.fieldLink RX1 22 "TwoTongues$Estate" "value" "[J" ∈ wsX1_keep := by decide +kernel
theorem wX1_keep_f25 : Cond.fieldLink RX1 25 "TwoTongues$Estate" "times" "[J" ∈ wsX1_keep := by decide +kernel
theorem wX1_keep_f19 : Cond.fieldLink RX1 19 "TwoTongues$Estate" "next" "[I" ∈ wsX1_keep := by decide +kernel
set_option maxRecDepth 100000 in
set_option maxHeartbeats 4000000 in
theorem tX1_keep_L9 {ad : Nat → Nat → Nat} (X : Ctx) (F : Nat) (x1 : Int32)   : ∀ (n : Nat) (γ : Nat → Nat) (x2 : Int32) (x3 : Int32) (S : St), JJ X ad γ (RQm X ad 0 0 outev) (fcm outev) 0 0 cX1_keep 4 RX1 wsX1_keep none (fX1_keep_L9 F x1 n x2 x3 S) S 9 [(0, .ref (ad 1 0)), (1, .int x1), (2, .int x2), (3, .int x3)] [] := by
  intro n
  induction n with
  | zero => intro _ _ _ _; exact j_none
  | succ n ih =>
    intro γ x2 x3 S
    rw [show fX1_keep_L9 F x1 (n + 1) x2 x3 S = fX1_keep_b9 F x1 (fX1_keep_L9 F x1 n) x2 x3 S from rfl]
    unfold fX1_keep_b9
    refine j_iload_n 9 3 dX1_keep_9 rfl rfl ?_
    refine j_aload_n 10 0 dX1_keep_10 rfl rfl ?_
    refine j_geti 11 7 nX1_keep_X1 rfl (by decide) (prs_mem (by decide) (by decide)) (by decide) (by decide) wX1_keep_f65 (Or.inl rfl) rfl dX1_keep_11 ?_
    refine j_icmp_ge 14 56 dX1_keep_14 (by decide) (fun _ => ?_) (fun _ => ?_)
    · exact j_vret 56 rfl dX1_keep_56
    · refine j_iload_n 17 2 dX1_keep_17 rfl rfl ?_
      refine j_if_lt 18 56 dX1_keep_18 (by decide) (fun _ => ?_) (fun _ => ?_)
      · exact j_vret 56 rfl dX1_keep_56
      · refine j_aload_n 21 0 dX1_keep_21 rfl rfl ?_
        refine j_getr (c2 := 18) (n2 := 0) 22 1 nX1_keep_X1 rfl (by decide) (prs_mem (by decide) (by decide)) (by decide) (by decide) wX1_keep_f9 (Or.inl rfl) rfl rfl rfl dX1_keep_22 ?_
        refine j_iload_n 25 1 dX1_keep_25 rfl rfl ?_
        refine j_dup2 26 dX1_keep_26 rfl rfl ?_
        refine j_lald (c := 18) (n := 0) (L := 30) 27 (prs_mem (by decide) (by decide)) (by decide) rfl rfl rfl dX1_keep_27 ?_
        refine j_aload_n 28 0 dX1_keep_28 rfl rfl ?_
        refine j_getg (j := 1) 29 5 nX1_keep_X1 rfl (by decide) (prs_mem (by decide) (by decide)) (by decide) (by decide) wX1_keep_f22 (Or.inl rfl) rfl rfl dX1_keep_29 ?_
        refine j_iload_n 32 2 dX1_keep_32 rfl rfl ?_
        refine j_lald (c := 83) (n := 0) (L := (gC S)) 33 (prs_mem (by decide) (by decide)) (by decide) rfl rfl rfl dX1_keep_33 ?_
        refine j_aload_n 34 0 dX1_keep_34 rfl rfl ?_
        refine j_getg (j := 2) 35 6 nX1_keep_X1 rfl (by decide) (prs_mem (by decide) (by decide)) (by decide) (by decide) wX1_keep_f25 (Or.inl rfl) rfl rfl dX1_keep_35 ?_
        refine j_iload_n 38 2 dX1_keep_38 rfl rfl ?_
        refine j_lald (c := 84) (n := 0) (L := (gC S)) 39 (prs_mem (by decide) (by decide)) (by decide) rfl rfl rfl dX1_keep_39 ?_
        refine j_lmul 40 dX1_keep_40 ?_
        refine j_ladd 41 dX1_keep_41 ?_
        refine j_last (c := 18) (n := 0) (L := 30) 42 (prs_mem (by decide) (by decide)) (by decide) rfl rfl rfl dX1_keep_42 (j_bs (fun S_2 => ?_))
        refine j_aload_n 43 0 dX1_keep_43 rfl rfl ?_
        refine j_getg (j := 0) 44 4 nX1_keep_X1 rfl (by decide) (prs_mem (by decide) (by decide)) (by decide) (by decide) wX1_keep_f19 (Or.inl rfl) rfl rfl dX1_keep_44 ?_
        refine j_iload_n 47 2 dX1_keep_47 rfl rfl ?_
        refine j_iald (c := 82) (n := 0) (L := (gC S_2)) 48 (prs_mem (by decide) (by decide)) (by decide) rfl rfl rfl dX1_keep_48 ?_
        refine j_bndi (fun x2_3 => ?_)
        refine j_istore_n (lv2 := [(2, .int x2_3), (0, .ref (ad 1 0)), (1, .int x1), (3, .int x3)]) 49 dX1_keep_49 rfl (by decide) rfl ?_
        refine j_iinc (v := x3 + 1) (lv2 := [(3, .int (x3 + 1)), (2, .int x2_3), (0, .ref (ad 1 0)), (1, .int x1)]) 50 3 dX1_keep_50 rfl rfl (by decide) rfl ?_
        refine j_goto 53 9 dX1_keep_53 (by decide) ?_
        refine j_sub [2, 3, 1, 0] rfl ?_
        exact ih _ x2_3 (x3 + 1) S_2
set_option maxRecDepth 100000 in
set_option maxHeartbeats 4000000 in
theorem tX1_keep {ad : Nat → Nat → Nat} (X : Ctx) (γ : Nat → Nat) (F : Nat) (S : St) (p1 : Int32) : JJ X ad γ (RQm X ad 0 0 outev) (fcm outev) 0 0 cX1_keep 4 RX1 wsX1_keep none (fX1_keep F S p1) S 0 [(0, .ref (ad 1 0)), (1, .int p1)] [] := by
  unfold fX1_keep
  refine j_aload_n 0 0 dX1_keep_0 rfl rfl ?_
  refine j_getr (c2 := 81) (n2 := 0) 1 3 nX1_keep_X1 rfl (by decide) (prs_mem (by decide) (by decide)) (by decide) (by decide) wX1_keep_f15 (Or.inl rfl) rfl rfl rfl dX1_keep_1 ?_
  refine j_iload_n 4 1 dX1_keep_4 rfl rfl ?_
  refine j_iald (c := 81) (n := 0) (L := 30) 5 (prs_mem (by decide) (by decide)) (by decide) rfl rfl rfl dX1_keep_5 ?_
  refine j_bndi (fun x2_1 => ?_)
  refine j_istore_n (lv2 := [(2, .int x2_1), (0, .ref (ad 1 0)), (1, .int p1)]) 6 dX1_keep_6 rfl (by decide) rfl ?_
  refine j_iconst (v := 0) 7 dX1_keep_7 (by decide) ?_
  refine j_istore_n (lv2 := [(3, .int 0), (2, .int x2_1), (0, .ref (ad 1 0)), (1, .int p1)]) 8 dX1_keep_8 rfl (by decide) rfl ?_
  refine j_sub [2, 3, 1, 0] rfl ?_
  exact tX1_keep_L9 X F p1 F _ x2_1 0 S
set_option maxRecDepth 100000 in
set_option maxHeartbeats 4000000 in
theorem kX1_keep {ad : Nat → Nat → Nat} (F : Nat) (S : St) (p1 : Int32) : ∀ b, fX1_keep F S p1 = some b → ∀ l dC dI cy, CT l dC dI cy ad yX1_keep wsX1_keep 0 0 [.ref (ad 1 0), .int p1] S (none) b :=
  fun b hb l dC dI cy => ct_of (l := l) (dC := dC) (dI := dI) (cy := cy) outev (by decide) rfl (Nat.le_of_ble_eq_true rfl) rfl (fun X γ => tX1_keep X γ F S p1) b hb
-- X1_inherit
theorem nX1_inherit_X1 : ∀ w ∈ u_ws RX1 TX1 8, w ∈ wsX1_inherit := by decide +kernel
theorem nX1_inherit_X7 : ∀ w ∈ u_ws RX7 TX7 12, w ∈ wsX1_inherit := by decide +kernel
theorem wX1_inherit_f65 : Cond.fieldLink RX1 65 "TwoTongues$Estate" "parcels" "I" ∈ wsX1_inherit := by decide +kernel
theorem wX1_inherit_f15 : Cond.fieldLink RX1 15 "TwoTongues$Estate" "firstOf" "[I" ∈ wsX1_inherit := by decide +kernel
theorem wX1_inherit_f9 : Cond.fieldLink RX1 9 "TwoTongues$Estate" "parts" "[J" ∈ wsX1_inherit := by decide +kernel
theorem wX1_inherit_f28 : Cond.fieldLink RX1 28 "TwoTongues$Estate" "people" "LTwoTongues$People;" ∈ wsX1_inherit := by decide +kernel
theorem wX1_inherit_f50 : Cond.fieldLink RX1 50 "TwoTongues$People" "size" "I" ∈ wsX1_inherit := by decide +kernel
set_option maxRecDepth 100000 in
set_option maxHeartbeats 4000000 in
theorem tX1_inherit_L34 {ad : Nat → Nat → Nat} (X : Ctx) (F : Nat) (x2 : Int32)   : ∀ (n : Nat) (γ : Nat → Nat) (x3 : Int32) (S : St), JJ X ad γ (RQm X ad 7 185 outev) (fcm outev) 7 185 cX1_inherit 4 RX1 wsX1_inherit none (fX1_inherit_L34 F x2 n x3 S) S 34 [(0, .ref (ad 1 0)), (2, .int x2), (3, .int x3)] [] := by
  intro n
  induction n with
  | zero => intro _ _ _; exact j_none
  | succ n ih =>
    intro γ x3 S
    rw [show fX1_inherit_L34 F x2 (n + 1) x3 S = fX1_inherit_b34 F x2 (fX1_inherit_L34 F x2 n) x3 S from rfl]
    unfold fX1_inherit_b34
    refine j_iload_n 34 2 dX1_inherit_34 rfl rfl ?_
    refine j_aload_n 35 0 dX1_inherit_35 rfl rfl ?_
    refine j_getr (c2 := 6) (n2 := 0) 36 0 nX1_inherit_X1 rfl (by decide) (prs_mem (by decide) (by decide)) (by decide) (by decide) wX1_inherit_f28 (Or.inl rfl) rfl rfl rfl dX1_inherit_36 ?_
    refine j_geti 39 6 nX1_inherit_X7 rfl (by decide) (prs_mem (by decide) (by decide)) (by decide) (by decide) wX1_inherit_f50 (Or.inl rfl) rfl dX1_inherit_39 ?_
    refine j_icmp_ge 42 100 dX1_inherit_42 (by decide) (fun _ => ?_) (fun _ => ?_)
    · exact j_vret 100 rfl dX1_inherit_100
    · refine j_aload_n 45 0 dX1_inherit_45 rfl rfl ?_
      refine j_getr (c2 := 6) (n2 := 0) 46 0 nX1_inherit_X1 rfl (by decide) (prs_mem (by decide) (by decide)) (by decide) (by decide) wX1_inherit_f28 (Or.inl rfl) rfl rfl rfl dX1_inherit_46 ?_
      refine j_iload_n 49 2 dX1_inherit_49 rfl rfl ?_
      refine j_iload_n 50 1 dX1_inherit_50 rfl rfl ?_
      refine j_callV_pi 51 rfl (by decide) (prs_mem (by decide) (by decide))  [.int x3, .int x2] [] gX1_inherit_X7_isDead rfl eX7_isDead ⟨Nat.le_of_ble_eq_true rfl, Nat.le_of_ble_eq_true rfl⟩ rfl rfl (Nat.le_of_ble_eq_true rfl) dX1_inherit_51 (kX7_isDead S x3 x2) (fun b_5 γ => ?_)
      refine j_if_ne 54 65 dX1_inherit_54 (by decide) (fun _ => ?_) (fun _ => ?_)
      · refine j_aload_n 65 0 dX1_inherit_65 rfl rfl ?_
        refine j_getr (c2 := 81) (n2 := 0) 66 3 nX1_inherit_X1 rfl (by decide) (prs_mem (by decide) (by decide)) (by decide) (by decide) wX1_inherit_f15 (Or.inl rfl) rfl rfl rfl dX1_inherit_66 ?_
        refine j_iload_n 69 2 dX1_inherit_69 rfl rfl ?_
        refine j_iald (c := 81) (n := 0) (L := 30) 70 (prs_mem (by decide) (by decide)) (by decide) rfl rfl rfl dX1_inherit_70 ?_
        refine j_if_lt 71 94 dX1_inherit_71 (by decide) (fun _ => ?_) (fun _ => ?_)
        · refine j_iinc (v := x3 + 1) (lv2 := [(3, .int (x3 + 1)), (0, .ref (ad 1 0)), (2, .int x2)]) 94 2 dX1_inherit_94 rfl rfl (by decide) rfl ?_
          refine j_goto 97 34 dX1_inherit_97 (by decide) ?_
          refine j_sub [1, 2, 0] rfl ?_
          exact ih _ (x3 + 1) S
        · refine j_aload_n 74 0 dX1_inherit_74 rfl rfl ?_
          refine j_iload_n 75 2 dX1_inherit_75 rfl rfl ?_
          refine j_aload_n 76 0 dX1_inherit_76 rfl rfl ?_
          refine j_getr (c2 := 6) (n2 := 0) 77 0 nX1_inherit_X1 rfl (by decide) (prs_mem (by decide) (by decide)) (by decide) (by decide) wX1_inherit_f28 (Or.inl rfl) rfl rfl rfl dX1_inherit_77 ?_
          refine j_iload_n 80 2 dX1_inherit_80 rfl rfl ?_
          refine j_iload_n 81 1 dX1_inherit_81 rfl rfl ?_
          refine j_callV_pi 82 rfl (by decide) (prs_mem (by decide) (by decide))  [.int x3, .int x2] [.int x3, .ref (ad 1 0)] gX1_inherit_X7_children rfl eX7_children ⟨Nat.le_of_ble_eq_true rfl, Nat.le_of_ble_eq_true rfl⟩ rfl rfl (Nat.le_of_ble_eq_true rfl) dX1_inherit_82 (kX7_children F S x3 x2) (fun b_6 γ => ?_)
          refine j_callV_ev 85 rfl (by decide) (prs_mem (by decide) (by decide))  [.int x3, .int b_6] [] gX1_inherit_X1_cut rfl eX1_cut ⟨Nat.le_of_ble_eq_true rfl, Nat.le_of_ble_eq_true rfl⟩ rfl rfl (Nat.le_of_ble_eq_true rfl) dX1_inherit_85 (kX1_cut F S x3 b_6) (fun b_7 γ => ?_)
          refine j_aload_n 88 0 dX1_inherit_88 rfl rfl ?_
          refine j_iload_n 89 2 dX1_inherit_89 rfl rfl ?_
          refine j_iload_n 90 1 dX1_inherit_90 rfl rfl ?_
          refine j_callV_ev 91 rfl (by decide) (prs_mem (by decide) (by decide))  [.int x3, .int x2] [] gX1_inherit_X1_handOn rfl eX1_handOn ⟨Nat.le_of_ble_eq_true rfl, Nat.le_of_ble_eq_true rfl⟩ rfl rfl (Nat.le_of_ble_eq_true rfl) dX1_inherit_91 (kX1_handOn F b_7 x3 x2) (fun b_8 γ => ?_)
          refine j_iinc (v := x3 + 1) (lv2 := [(3, .int (x3 + 1)), (0, .ref (ad 1 0)), (2, .int x2)]) 94 2 dX1_inherit_94 rfl rfl (by decide) rfl ?_
          refine j_goto 97 34 dX1_inherit_97 (by decide) ?_
          refine j_sub [1, 2, 0] rfl ?_
          exact ih _ (x3 + 1) b_8
      · refine j_aload_n 57 0 dX1_inherit_57 rfl rfl ?_
        refine j_iload_n 58 2 dX1_inherit_58 rfl rfl ?_
        refine j_callV_ev 59 rfl (by decide) (prs_mem (by decide) (by decide))  [.int x3] [] gX1_inherit_X1_keep rfl eX1_keep ⟨Nat.le_of_ble_eq_true rfl, Nat.le_of_ble_eq_true rfl⟩ rfl rfl (Nat.le_of_ble_eq_true rfl) dX1_inherit_59 (kX1_keep F S x3) (fun b_9 γ => ?_)
        refine j_goto 62 94 dX1_inherit_62 (by decide) ?_
        refine j_iinc (v := x3 + 1) (lv2 := [(3, .int (x3 + 1)), (0, .ref (ad 1 0)), (2, .int x2)]) 94 2 dX1_inherit_94 rfl rfl (by decide) rfl ?_
        refine j_goto 97 34 dX1_inherit_97 (by decide) ?_
        refine j_sub [1, 2, 0] rfl ?_
        exact ih _ (x3 + 1) b_9
set_option maxRecDepth 100000 in
set_option maxHeartbeats 4000000 in
theorem tX1_inherit {ad : Nat → Nat → Nat} (X : Ctx) (γ : Nat → Nat) (F : Nat) (S : St) (p1 : Int32) (p2 : Int32) : JJ X ad γ (RQm X ad 7 185 outev) (fcm outev) 7 185 cX1_inherit 4 RX1 wsX1_inherit none (fX1_inherit F S p1 p2) S 0 [(0, .ref (ad 1 0)), (1, .int p1), (2, .int p2)] [] := by
  unfold fX1_inherit
  refine j_aload_n 0 0 dX1_inherit_0 rfl rfl ?_
  refine j_iconst (v := 0) 1 dX1_inherit_1 (by decide) ?_
  refine j_puti 2 7 nX1_inherit_X1 rfl (by decide) (prs_mem (by decide) (by decide)) (by decide) (by decide) wX1_inherit_f65 (Or.inl rfl) tyX1 tyX1_ok nmX1 rfl (by decide) rfl dX1_inherit_2 (j_bs (fun S_1 => ?_))
  refine j_aload_n 5 0 dX1_inherit_5 rfl rfl ?_
  refine j_getr (c2 := 81) (n2 := 0) 6 3 nX1_inherit_X1 rfl (by decide) (prs_mem (by decide) (by decide)) (by decide) (by decide) wX1_inherit_f15 (Or.inl rfl) rfl rfl rfl dX1_inherit_6 ?_
  refine j_iconst (v := (-1)) 9 dX1_inherit_9 (by decide) ?_
  refine j_callS_ev 10  [.ref (ad 81 0), .int (-1)] [] gX1_inherit_J7_fill_53178 rfl eJ7_fill_53178 ⟨Nat.le_of_ble_eq_true rfl, Nat.le_of_ble_eq_true rfl⟩ rfl rfl (Nat.le_of_ble_eq_true rfl) dX1_inherit_10 (kJ7_fill_53178 F S_1 (-1)) (fun b_2 γ => ?_)
  refine j_aload_n 13 0 dX1_inherit_13 rfl rfl ?_
  refine j_iload_n 14 1 dX1_inherit_14 rfl rfl ?_
  refine j_aload_n 15 0 dX1_inherit_15 rfl rfl ?_
  refine j_getr (c2 := 18) (n2 := 0) 16 1 nX1_inherit_X1 rfl (by decide) (prs_mem (by decide) (by decide)) (by decide) (by decide) wX1_inherit_f9 (Or.inl rfl) rfl rfl rfl dX1_inherit_16 ?_
  refine j_iload_n 19 1 dX1_inherit_19 rfl rfl ?_
  refine j_lald (c := 18) (n := 0) (L := 30) 20 (prs_mem (by decide) (by decide)) (by decide) rfl rfl rfl dX1_inherit_20 ?_
  refine j_lconst (v := 1) 21 dX1_inherit_21 (by decide) ?_
  refine j_callV_ev 22 rfl (by decide) (prs_mem (by decide) (by decide))  [.int p1, .long (gB b_2 18 0 p1.toNatClampNeg), .long 1] [] gX1_inherit_X1_send rfl eX1_send ⟨Nat.le_of_ble_eq_true rfl, Nat.le_of_ble_eq_true rfl⟩ rfl rfl (Nat.le_of_ble_eq_true rfl) dX1_inherit_22 (kX1_send F b_2 p1 (gB b_2 18 0 p1.toNatClampNeg) 1) (fun b_3 γ => ?_)
  refine j_aload_n 25 0 dX1_inherit_25 rfl rfl ?_
  refine j_getr (c2 := 18) (n2 := 0) 26 1 nX1_inherit_X1 rfl (by decide) (prs_mem (by decide) (by decide)) (by decide) (by decide) wX1_inherit_f9 (Or.inl rfl) rfl rfl rfl dX1_inherit_26 ?_
  refine j_iload_n 29 1 dX1_inherit_29 rfl rfl ?_
  refine j_lconst (v := 0) 30 dX1_inherit_30 (by decide) ?_
  refine j_last (c := 18) (n := 0) (L := 30) 31 (prs_mem (by decide) (by decide)) (by decide) rfl rfl rfl dX1_inherit_31 (j_bs (fun S_4 => ?_))
  refine j_iload_n 32 1 dX1_inherit_32 rfl rfl ?_
  refine j_istore_n (lv2 := [(3, .int p1), (0, .ref (ad 1 0)), (1, .int p1), (2, .int p2)]) 33 dX1_inherit_33 rfl (by decide) rfl ?_
  refine j_sub [1, 3, 0] rfl ?_
  exact tX1_inherit_L34 X F p2 F _ p1 S_4
set_option maxRecDepth 100000 in
set_option maxHeartbeats 4000000 in
theorem kX1_inherit {ad : Nat → Nat → Nat} (F : Nat) (S : St) (p1 : Int32) (p2 : Int32) : ∀ b, fX1_inherit F S p1 p2 = some b → ∀ l dC dI cy, CT l dC dI cy ad yX1_inherit wsX1_inherit 7 185 [.ref (ad 1 0), .int p1, .int p2] S (none) b :=
  fun b hb l dC dI cy => ct_of (l := l) (dC := dC) (dI := dI) (cy := cy) outev (by decide) rfl (Nat.le_of_ble_eq_true rfl) rfl (fun X γ => tX1_inherit X γ F S p1 p2) b hb
-- X1_pass
theorem nX1_pass_X1 : ∀ w ∈ u_ws RX1 TX1 8, w ∈ wsX1_pass := by decide +kernel
theorem nX1_pass_X7 : ∀ w ∈ u_ws RX7 TX7 12, w ∈ wsX1_pass := by decide +kernel
theorem wX1_pass_f28 : Cond.fieldLink RX1 28 "TwoTongues$Estate" "people" "LTwoTongues$People;" ∈ wsX1_pass := by decide +kernel
theorem wX1_pass_f50 : Cond.fieldLink RX1 50 "TwoTongues$People" "size" "I" ∈ wsX1_pass := by decide +kernel
theorem wX1_pass_f58 : Cond.fieldLink RX1 58 "TwoTongues$People" "dead" "[I" ∈ wsX1_pass := by decide +kernel
theorem wX1_pass_f9 : Cond.fieldLink RX1 9 "TwoTongues$Estate" "parts" "[J" ∈ wsX1_pass := by decide +kernel
set_option maxRecDepth 100000 in
set_option maxHeartbeats 4000000 in
theorem tX1_pass_L2 {ad : Nat → Nat → Nat} (X : Ctx) (F : Nat) (x1 : Int32)   : ∀ (n : Nat) (γ : Nat → Nat) (x2 : Int32) (S : St), JJ X ad γ (RQm X ad 8 208 outev) (fcm outev) 8 208 cX1_pass 3 RX1 wsX1_pass none (fX1_pass_L2 F x1 n x2 S) S 2 [(0, .ref (ad 1 0)), (1, .int x1), (2, .int x2)] [] := by
  intro n
  induction n with
  | zero => intro _ _ _; exact j_none
  | succ n ih =>
    intro γ x2 S
    rw [show fX1_pass_L2 F x1 (n + 1) x2 S = fX1_pass_b2 F x1 (fX1_pass_L2 F x1 n) x2 S from rfl]
    unfold fX1_pass_b2
    refine j_iload_n 2 2 dX1_pass_2 rfl rfl ?_
    refine j_aload_n 3 0 dX1_pass_3 rfl rfl ?_
    refine j_getr (c2 := 6) (n2 := 0) 4 0 nX1_pass_X1 rfl (by decide) (prs_mem (by decide) (by decide)) (by decide) (by decide) wX1_pass_f28 (Or.inl rfl) rfl rfl rfl dX1_pass_4 ?_
    refine j_geti 7 6 nX1_pass_X7 rfl (by decide) (prs_mem (by decide) (by decide)) (by decide) (by decide) wX1_pass_f50 (Or.inl rfl) rfl dX1_pass_7 ?_
    refine j_icmp_ge 10 49 dX1_pass_10 (by decide) (fun _ => ?_) (fun _ => ?_)
    · exact j_vret 49 rfl dX1_pass_49
    · refine j_aload_n 13 0 dX1_pass_13 rfl rfl ?_
      refine j_getr (c2 := 6) (n2 := 0) 14 0 nX1_pass_X1 rfl (by decide) (prs_mem (by decide) (by decide)) (by decide) (by decide) wX1_pass_f28 (Or.inl rfl) rfl rfl rfl dX1_pass_14 ?_
      refine j_getr (c2 := 35) (n2 := 0) 17 1 nX1_pass_X7 rfl (by decide) (prs_mem (by decide) (by decide)) (by decide) (by decide) wX1_pass_f58 (Or.inl rfl) rfl rfl rfl dX1_pass_17 ?_
      refine j_iload_n 20 2 dX1_pass_20 rfl rfl ?_
      refine j_iald (c := 35) (n := 0) (L := 30) 21 (prs_mem (by decide) (by decide)) (by decide) rfl rfl rfl dX1_pass_21 ?_
      refine j_iload_n 22 1 dX1_pass_22 rfl rfl ?_
      refine j_icmp_ne 23 43 dX1_pass_23 (by decide) (fun _ => ?_) (fun _ => ?_)
      · refine j_iinc (v := x2 + 1) (lv2 := [(2, .int (x2 + 1)), (0, .ref (ad 1 0)), (1, .int x1)]) 43 2 dX1_pass_43 rfl rfl (by decide) rfl ?_
        refine j_goto 46 2 dX1_pass_46 (by decide) ?_
        refine j_sub [1, 2, 0] rfl ?_
        exact ih _ (x2 + 1) S
      · refine j_aload_n 26 0 dX1_pass_26 rfl rfl ?_
        refine j_getr (c2 := 18) (n2 := 0) 27 1 nX1_pass_X1 rfl (by decide) (prs_mem (by decide) (by decide)) (by decide) (by decide) wX1_pass_f9 (Or.inl rfl) rfl rfl rfl dX1_pass_27 ?_
        refine j_iload_n 30 2 dX1_pass_30 rfl rfl ?_
        refine j_lald (c := 18) (n := 0) (L := 30) 31 (prs_mem (by decide) (by decide)) (by decide) rfl rfl rfl dX1_pass_31 ?_
        refine j_lconst (v := 0) 32 dX1_pass_32 (by decide) ?_
        refine j_lcmp 33 dX1_pass_33 ?_
        refine j_if_le 34 43 dX1_pass_34 (by decide) (fun _ => ?_) (fun _ => ?_)
        · refine j_iinc (v := x2 + 1) (lv2 := [(2, .int (x2 + 1)), (0, .ref (ad 1 0)), (1, .int x1)]) 43 2 dX1_pass_43 rfl rfl (by decide) rfl ?_
          refine j_goto 46 2 dX1_pass_46 (by decide) ?_
          refine j_sub [1, 2, 0] rfl ?_
          exact ih _ (x2 + 1) S
        · refine j_aload_n 37 0 dX1_pass_37 rfl rfl ?_
          refine j_iload_n 38 2 dX1_pass_38 rfl rfl ?_
          refine j_iload_n 39 1 dX1_pass_39 rfl rfl ?_
          refine j_callV_ev 40 rfl (by decide) (prs_mem (by decide) (by decide))  [.int x2, .int x1] [] gX1_pass_X1_inherit rfl eX1_inherit ⟨Nat.le_of_ble_eq_true rfl, Nat.le_of_ble_eq_true rfl⟩ rfl rfl (Nat.le_of_ble_eq_true rfl) dX1_pass_40 (kX1_inherit F S x2 x1) (fun b_1 γ => ?_)
          refine j_iinc (v := x2 + 1) (lv2 := [(2, .int (x2 + 1)), (0, .ref (ad 1 0)), (1, .int x1)]) 43 2 dX1_pass_43 rfl rfl (by decide) rfl ?_
          refine j_goto 46 2 dX1_pass_46 (by decide) ?_
          refine j_sub [1, 2, 0] rfl ?_
          exact ih _ (x2 + 1) b_1
set_option maxRecDepth 100000 in
set_option maxHeartbeats 4000000 in
theorem tX1_pass {ad : Nat → Nat → Nat} (X : Ctx) (γ : Nat → Nat) (F : Nat) (S : St) (p1 : Int32) : JJ X ad γ (RQm X ad 8 208 outev) (fcm outev) 8 208 cX1_pass 3 RX1 wsX1_pass none (fX1_pass F S p1) S 0 [(0, .ref (ad 1 0)), (1, .int p1)] [] := by
  unfold fX1_pass
  refine j_iconst (v := 0) 0 dX1_pass_0 (by decide) ?_
  refine j_istore_n (lv2 := [(2, .int 0), (0, .ref (ad 1 0)), (1, .int p1)]) 1 dX1_pass_1 rfl (by decide) rfl ?_
  refine j_sub [1, 2, 0] rfl ?_
  exact tX1_pass_L2 X F p1 F _ 0 S
set_option maxRecDepth 100000 in
set_option maxHeartbeats 4000000 in
theorem kX1_pass {ad : Nat → Nat → Nat} (F : Nat) (S : St) (p1 : Int32) : ∀ b, fX1_pass F S p1 = some b → ∀ l dC dI cy, CT l dC dI cy ad yX1_pass wsX1_pass 8 208 [.ref (ad 1 0), .int p1] S (none) b :=
  fun b hb l dC dI cy => ct_of (l := l) (dC := dC) (dI := dI) (cy := cy) outev (by decide) rfl (Nat.le_of_ble_eq_true rfl) rfl (fun X γ => tX1_pass X γ F S p1) b hb
-- X1_hasLessThanOneOf
theorem nX1_hasLessThanOneOf_X1 : ∀ w ∈ u_ws RX1 TX1 8, w ∈ wsX1_hasLessThanOneOf := by decide +kernel
theorem nX1_hasLessThanOneOf_X7 : ∀ w ∈ u_ws RX7 TX7 12, w ∈ wsX1_hasLessThanOneOf := by decide +kernel
theorem wX1_hasLessThanOneOf_f28 : Cond.fieldLink RX1 28 "TwoTongues$Estate" "people" "LTwoTongues$People;" ∈ wsX1_hasLessThanOneOf := by decide +kernel
theorem wX1_hasLessThanOneOf_f50 : Cond.fieldLink RX1 50 "TwoTongues$People" "size" "I" ∈ wsX1_hasLessThanOneOf := by decide +kernel
theorem wX1_hasLessThanOneOf_f9 : Cond.fieldLink RX1 9 "TwoTongues$Estate" "parts" "[J" ∈ wsX1_hasLessThanOneOf := by decide +kernel
theorem wX1_hasLessThanOneOf_c38 : Cond.constantLong RX1 38 (1000000000000) ∈ wsX1_hasLessThanOneOf := by decide +kernel
set_option maxRecDepth 100000 in
set_option maxHeartbeats 4000000 in
theorem tX1_hasLessThanOneOf_L2 {ad : Nat → Nat → Nat} (X : Ctx) (F : Nat) (S : St) (x1 : Int32)   : ∀ (n : Nat) (γ : Nat → Nat) (x2 : Int32), JJ X ad γ (RQm X ad 0 0 (outpi S)) (fcm (outpi S)) 0 0 cX1_hasLessThanOneOf 3 RX1 wsX1_hasLessThanOneOf (some .boolean) (fX1_hasLessThanOneOf_L2 F S x1 n x2) S 2 [(0, .ref (ad 1 0)), (1, .int x1), (2, .int x2)] [] := by
  intro n
  induction n with
  | zero => intro _ _; exact j_none
  | succ n ih =>
    intro γ x2
    rw [show fX1_hasLessThanOneOf_L2 F S x1 (n + 1) x2 = fX1_hasLessThanOneOf_b2 F S x1 (fX1_hasLessThanOneOf_L2 F S x1 n) x2 from rfl]
    unfold fX1_hasLessThanOneOf_b2
    refine j_iload_n 2 2 dX1_hasLessThanOneOf_2 rfl rfl ?_
    refine j_aload_n 3 0 dX1_hasLessThanOneOf_3 rfl rfl ?_
    refine j_getr (c2 := 6) (n2 := 0) 4 0 nX1_hasLessThanOneOf_X1 rfl (by decide) (prs_mem (by decide) (by decide)) (by decide) (by decide) wX1_hasLessThanOneOf_f28 (Or.inl rfl) rfl rfl rfl dX1_hasLessThanOneOf_4 ?_
    refine j_geti 7 6 nX1_hasLessThanOneOf_X7 rfl (by decide) (prs_mem (by decide) (by decide)) (by decide) (by decide) wX1_hasLessThanOneOf_f50 (Or.inl rfl) rfl dX1_hasLessThanOneOf_7 ?_
    refine j_icmp_ge 10 48 dX1_hasLessThanOneOf_10 (by decide) (fun _ => ?_) (fun _ => ?_)
    · refine j_iconst (v := 0) 48 dX1_hasLessThanOneOf_48 (by decide) ?_
      exact j_zret 49 (by decide) rfl dX1_hasLessThanOneOf_49
    · refine j_aload_n 13 0 dX1_hasLessThanOneOf_13 rfl rfl ?_
      refine j_getr (c2 := 18) (n2 := 0) 14 1 nX1_hasLessThanOneOf_X1 rfl (by decide) (prs_mem (by decide) (by decide)) (by decide) (by decide) wX1_hasLessThanOneOf_f9 (Or.inl rfl) rfl rfl rfl dX1_hasLessThanOneOf_14 ?_
      refine j_iload_n 17 2 dX1_hasLessThanOneOf_17 rfl rfl ?_
      refine j_lald (c := 18) (n := 0) (L := 30) 18 (prs_mem (by decide) (by decide)) (by decide) rfl rfl rfl dX1_hasLessThanOneOf_18 ?_
      refine j_lconst (v := 0) 19 dX1_hasLessThanOneOf_19 (by decide) ?_
      refine j_lcmp 20 dX1_hasLessThanOneOf_20 ?_
      refine j_if_le 21 42 dX1_hasLessThanOneOf_21 (by decide) (fun _ => ?_) (fun _ => ?_)
      · refine j_iinc (v := x2 + 1) (lv2 := [(2, .int (x2 + 1)), (0, .ref (ad 1 0)), (1, .int x1)]) 42 2 dX1_hasLessThanOneOf_42 rfl rfl (by decide) rfl ?_
        refine j_goto 45 2 dX1_hasLessThanOneOf_45 (by decide) ?_
        refine j_sub [1, 2, 0] rfl ?_
        exact ih _ (x2 + 1)
      · refine j_aload_n 24 0 dX1_hasLessThanOneOf_24 rfl rfl ?_
        refine j_getr (c2 := 18) (n2 := 0) 25 1 nX1_hasLessThanOneOf_X1 rfl (by decide) (prs_mem (by decide) (by decide)) (by decide) (by decide) wX1_hasLessThanOneOf_f9 (Or.inl rfl) rfl rfl rfl dX1_hasLessThanOneOf_25 ?_
        refine j_iload_n 28 2 dX1_hasLessThanOneOf_28 rfl rfl ?_
        refine j_lald (c := 18) (n := 0) (L := 30) 29 (prs_mem (by decide) (by decide)) (by decide) rfl rfl rfl dX1_hasLessThanOneOf_29 ?_
        refine j_iload_n 30 1 dX1_hasLessThanOneOf_30 rfl rfl ?_
        refine j_i2l 31 dX1_hasLessThanOneOf_31 ?_
        refine j_lmul 32 dX1_hasLessThanOneOf_32 ?_
        refine j_ldc2 (v := 1000000000000) 33 dX1_hasLessThanOneOf_33 wX1_hasLessThanOneOf_c38 ?_
        refine j_lcmp 36 dX1_hasLessThanOneOf_36 ?_
        refine j_if_ge 37 42 dX1_hasLessThanOneOf_37 (by decide) (fun _ => ?_) (fun _ => ?_)
        · refine j_iinc (v := x2 + 1) (lv2 := [(2, .int (x2 + 1)), (0, .ref (ad 1 0)), (1, .int x1)]) 42 2 dX1_hasLessThanOneOf_42 rfl rfl (by decide) rfl ?_
          refine j_goto 45 2 dX1_hasLessThanOneOf_45 (by decide) ?_
          refine j_sub [1, 2, 0] rfl ?_
          exact ih _ (x2 + 1)
        · refine j_iconst (v := 1) 40 dX1_hasLessThanOneOf_40 (by decide) ?_
          exact j_zret 41 (by decide) rfl dX1_hasLessThanOneOf_41
set_option maxRecDepth 100000 in
set_option maxHeartbeats 4000000 in
theorem tX1_hasLessThanOneOf {ad : Nat → Nat → Nat} (X : Ctx) (γ : Nat → Nat) (F : Nat) (S : St) (p1 : Int32) : JJ X ad γ (RQm X ad 0 0 (outpi S)) (fcm (outpi S)) 0 0 cX1_hasLessThanOneOf 3 RX1 wsX1_hasLessThanOneOf (some .boolean) (fX1_hasLessThanOneOf F S p1) S 0 [(0, .ref (ad 1 0)), (1, .int p1)] [] := by
  unfold fX1_hasLessThanOneOf
  refine j_iconst (v := 0) 0 dX1_hasLessThanOneOf_0 (by decide) ?_
  refine j_istore_n (lv2 := [(2, .int 0), (0, .ref (ad 1 0)), (1, .int p1)]) 1 dX1_hasLessThanOneOf_1 rfl (by decide) rfl ?_
  refine j_sub [1, 2, 0] rfl ?_
  exact tX1_hasLessThanOneOf_L2 X F S p1 F _ 0
set_option maxRecDepth 100000 in
set_option maxHeartbeats 4000000 in
theorem kX1_hasLessThanOneOf {ad : Nat → Nat → Nat} (F : Nat) (S : St) (p1 : Int32) : ∀ b, fX1_hasLessThanOneOf F S p1 = some b → ∀ l dC dI cy, CT l dC dI cy ad yX1_hasLessThanOneOf wsX1_hasLessThanOneOf 0 0 [.ref (ad 1 0), .int p1] S (some (.int b)) S :=
  fun b hb l dC dI cy => ct_of (l := l) (dC := dC) (dI := dI) (cy := cy) (outpi S) (by decide) rfl (Nat.le_of_ble_eq_true rfl) rfl (fun X γ => tX1_hasLessThanOneOf X γ F S p1) b hb
-- X2_lengthOf
theorem nX2_lengthOf_X0 : ∀ w ∈ u_ws RX0 TX0 7, w ∈ wsX2_lengthOf := by decide +kernel
theorem nX2_lengthOf_X2 : ∀ w ∈ u_ws RX2 TX2 5, w ∈ wsX2_lengthOf := by decide +kernel
theorem wX2_lengthOf_f17 : Cond.fieldLink RX2 17 "TwoTongues$Hearings" "claims" "LTwoTongues$Claims;" ∈ wsX2_lengthOf := by decide +kernel
theorem wX2_lengthOf_s17 : Cond.sameField "TwoTongues$Hearings" "TwoTongues$Order" "claims" "LTwoTongues$Claims;" ∈ wsX2_lengthOf := by decide +kernel
theorem wX2_lengthOf_f31 : Cond.fieldLink RX2 31 "TwoTongues$Claims" "time" "[I" ∈ wsX2_lengthOf := by decide +kernel
set_option maxRecDepth 100000 in
set_option maxHeartbeats 4000000 in
theorem tX2_lengthOf {ad : Nat → Nat → Nat} (X : Ctx) (γ : Nat → Nat) (S : St) (p1 : Int32) : JJ X ad γ (RQm X ad 0 0 (outpi S)) (fcm (outpi S)) 0 0 cX2_lengthOf 2 RX2 wsX2_lengthOf (some .int) (fX2_lengthOf S p1) S 0 [(0, .ref (ad 2 0)), (1, .int p1)] [] := by
  unfold fX2_lengthOf
  refine j_aload_n 0 0 dX2_lengthOf_0 rfl rfl ?_
  refine j_getr (c2 := 0) (n2 := 0) 1 0 nX2_lengthOf_X2 rfl (by decide) (prs_mem (by decide) (by decide)) (by decide) (by decide) wX2_lengthOf_f17 (Or.inr wX2_lengthOf_s17) rfl rfl rfl dX2_lengthOf_1 ?_
  refine j_getr (c2 := 15) (n2 := 0) 4 3 nX2_lengthOf_X0 rfl (by decide) (prs_mem (by decide) (by decide)) (by decide) (by decide) wX2_lengthOf_f31 (Or.inl rfl) rfl rfl rfl dX2_lengthOf_4 ?_
  refine j_iload_n 7 1 dX2_lengthOf_7 rfl rfl ?_
  refine j_iald (c := 15) (n := 0) (L := 9) 8 (prs_mem (by decide) (by decide)) (by decide) rfl rfl rfl dX2_lengthOf_8 ?_
  exact j_iret 9 rfl dX2_lengthOf_9
set_option maxRecDepth 100000 in
set_option maxHeartbeats 4000000 in
theorem kX2_lengthOf {ad : Nat → Nat → Nat} (S : St) (p1 : Int32) : ∀ b, fX2_lengthOf S p1 = some b → ∀ l dC dI cy, CT l dC dI cy ad yX2_lengthOf wsX2_lengthOf 0 0 [.ref (ad 2 0), .int p1] S (some (.int b)) S :=
  fun b hb l dC dI cy => ct_of (l := l) (dC := dC) (dI := dI) (cy := cy) (outpi S) (by decide) rfl (Nat.le_of_ble_eq_true rfl) rfl (fun X γ => tX2_lengthOf X γ S p1) b hb
-- X5_lengthOfAll_h
theorem nX5_lengthOfAll_X0 : ∀ w ∈ u_ws RX0 TX0 7, w ∈ wsX5_lengthOfAll := by decide +kernel
theorem nX5_lengthOfAll_X2 : ∀ w ∈ u_ws RX2 TX2 5, w ∈ wsX5_lengthOfAll := by decide +kernel
theorem wX5_lengthOfAll_f15 : Cond.fieldLink RX5 15 "TwoTongues$Order" "claims" "LTwoTongues$Claims;" ∈ wsX5_lengthOfAll := by decide +kernel
theorem wX5_lengthOfAll_f33 : Cond.fieldLink RX5 33 "TwoTongues$Claims" "size" "I" ∈ wsX5_lengthOfAll := by decide +kernel
theorem wX5_lengthOfAll_stX11_hasBit : Cond.static yX11_hasBit ∈ wsX5_lengthOfAll := by decide +kernel
theorem wX5_lengthOfAll_inX11_hasBit : Cond.initialized yX11_hasBit.cls ∈ wsX5_lengthOfAll := by decide +kernel
set_option maxRecDepth 100000 in
set_option maxHeartbeats 4000000 in
theorem tX5_lengthOfAll_h_L4 {ad : Nat → Nat → Nat} (X : Ctx) (F : Nat) (S : St) (x1 : Int32)   : ∀ (n : Nat) (γ : Nat → Nat) (x2 : Int32) (x3 : Int32), JJ X ad γ (RQm X ad 1 21 (outpi S)) (fcm (outpi S)) 1 21 cX5_lengthOfAll 4 RX5 wsX5_lengthOfAll (some .int) (fX5_lengthOfAll_h_L4 F S x1 n x2 x3) S 4 [(0, .ref (ad 2 0)), (1, .int x1), (2, .int x2), (3, .int x3)] [] := by
  intro n
  induction n with
  | zero => intro _ _ _; exact j_none
  | succ n ih =>
    intro γ x2 x3
    rw [show fX5_lengthOfAll_h_L4 F S x1 (n + 1) x2 x3 = fX5_lengthOfAll_h_b4 F S x1 (fX5_lengthOfAll_h_L4 F S x1 n) x2 x3 from rfl]
    unfold fX5_lengthOfAll_h_b4
    refine j_iload_n 4 3 dX5_lengthOfAll_4 rfl rfl ?_
    refine j_aload_n 5 0 dX5_lengthOfAll_5 rfl rfl ?_
    refine j_getr (c2 := 0) (n2 := 0) 6 0 nX5_lengthOfAll_X2 rfl (by decide) (prs_mem (by decide) (by decide)) (by decide) (by decide) wX5_lengthOfAll_f15 (Or.inl rfl) rfl rfl rfl dX5_lengthOfAll_6 ?_
    refine j_geti 9 6 nX5_lengthOfAll_X0 rfl (by decide) (prs_mem (by decide) (by decide)) (by decide) (by decide) wX5_lengthOfAll_f33 (Or.inl rfl) rfl dX5_lengthOfAll_9 ?_
    refine j_icmp_ge 12 37 dX5_lengthOfAll_12 (by decide) (fun _ => ?_) (fun _ => ?_)
    · refine j_iload_n 37 2 dX5_lengthOfAll_37 rfl rfl ?_
      exact j_iret 38 rfl dX5_lengthOfAll_38
    · refine j_iload_n 15 1 dX5_lengthOfAll_15 rfl rfl ?_
      refine j_iload_n 16 3 dX5_lengthOfAll_16 rfl rfl ?_
      refine j_callSN_pi 17  [.int x1, .int x3] [] (host := "TwoTongues") gX5_lengthOfAll_X11_hasBit_n43 rfl (by decide +kernel) wX5_lengthOfAll_stX11_hasBit wX5_lengthOfAll_inX11_hasBit eX11_hasBit ⟨Nat.le_of_ble_eq_true rfl, Nat.le_of_ble_eq_true rfl⟩ rfl rfl (Nat.le_of_ble_eq_true rfl) dX5_lengthOfAll_17 (kX11_hasBit S x1 x3) (fun b_1 γ => ?_)
      refine j_if_eq 20 31 dX5_lengthOfAll_20 (by decide) (fun _ => ?_) (fun _ => ?_)
      · refine j_iinc (v := x3 + 1) (lv2 := [(3, .int (x3 + 1)), (0, .ref (ad 2 0)), (1, .int x1), (2, .int x2)]) 31 3 dX5_lengthOfAll_31 rfl rfl (by decide) rfl ?_
        refine j_goto 34 4 dX5_lengthOfAll_34 (by decide) ?_
        refine j_sub [1, 2, 3, 0] rfl ?_
        exact ih _ x2 (x3 + 1)
      · refine j_iload_n 23 2 dX5_lengthOfAll_23 rfl rfl ?_
        refine j_aload_n 24 0 dX5_lengthOfAll_24 rfl rfl ?_
        refine j_iload_n 25 3 dX5_lengthOfAll_25 rfl rfl ?_
        refine j_callA_pi 26 rfl (by decide) (prs_mem (by decide) (by decide))  [.int x3] [.int x2] (n := 1) (owner := "TwoTongues$Order") (x := ⟨"TwoTongues$Order", "lengthOf", "(I)I"⟩) gX5_lengthOfAll_X2_lengthOf_u57X2 rfl (by decide +kernel) (by decide +kernel) ⟨Nat.le_of_ble_eq_true rfl, Nat.le_of_ble_eq_true rfl⟩ rfl rfl (Nat.le_of_ble_eq_true rfl) dX5_lengthOfAll_26 (kX2_lengthOf S x3) (fun b_2 γ => ?_)
        refine j_iadd 29 dX5_lengthOfAll_29 ?_
        refine j_bndi (fun x2_3 => ?_)
        refine j_istore_n (lv2 := [(2, .int x2_3), (0, .ref (ad 2 0)), (1, .int x1), (3, .int x3)]) 30 dX5_lengthOfAll_30 rfl (by decide) rfl ?_
        refine j_iinc (v := x3 + 1) (lv2 := [(3, .int (x3 + 1)), (2, .int x2_3), (0, .ref (ad 2 0)), (1, .int x1)]) 31 3 dX5_lengthOfAll_31 rfl rfl (by decide) rfl ?_
        refine j_goto 34 4 dX5_lengthOfAll_34 (by decide) ?_
        refine j_sub [2, 3, 1, 0] rfl ?_
        exact ih _ x2_3 (x3 + 1)
set_option maxRecDepth 100000 in
set_option maxHeartbeats 4000000 in
theorem tX5_lengthOfAll_h {ad : Nat → Nat → Nat} (X : Ctx) (γ : Nat → Nat) (F : Nat) (S : St) (p1 : Int32) : JJ X ad γ (RQm X ad 1 21 (outpi S)) (fcm (outpi S)) 1 21 cX5_lengthOfAll 4 RX5 wsX5_lengthOfAll (some .int) (fX5_lengthOfAll_h F S p1) S 0 [(0, .ref (ad 2 0)), (1, .int p1)] [] := by
  unfold fX5_lengthOfAll_h
  refine j_iconst (v := 0) 0 dX5_lengthOfAll_0 (by decide) ?_
  refine j_istore_n (lv2 := [(2, .int 0), (0, .ref (ad 2 0)), (1, .int p1)]) 1 dX5_lengthOfAll_1 rfl (by decide) rfl ?_
  refine j_iconst (v := 0) 2 dX5_lengthOfAll_2 (by decide) ?_
  refine j_istore_n (lv2 := [(3, .int 0), (2, .int 0), (0, .ref (ad 2 0)), (1, .int p1)]) 3 dX5_lengthOfAll_3 rfl (by decide) rfl ?_
  refine j_sub [2, 3, 1, 0] rfl ?_
  exact tX5_lengthOfAll_h_L4 X F S p1 F _ 0 0
set_option maxRecDepth 100000 in
set_option maxHeartbeats 4000000 in
theorem kX5_lengthOfAll_h {ad : Nat → Nat → Nat} (F : Nat) (S : St) (p1 : Int32) : ∀ b, fX5_lengthOfAll_h F S p1 = some b → ∀ l dC dI cy, CT l dC dI cy ad yX5_lengthOfAll wsX5_lengthOfAll 1 21 [.ref (ad 2 0), .int p1] S (some (.int b)) S :=
  fun b hb l dC dI cy => ct_of (l := l) (dC := dC) (dI := dI) (cy := cy) (outpi S) (by decide) rfl (Nat.le_of_ble_eq_true rfl) rfl (fun X γ => tX5_lengthOfAll_h X γ F S p1) b hb
-- X2_priceOf
theorem nX2_priceOf_X0 : ∀ w ∈ u_ws RX0 TX0 7, w ∈ wsX2_priceOf := by decide +kernel
theorem nX2_priceOf_X2 : ∀ w ∈ u_ws RX2 TX2 5, w ∈ wsX2_priceOf := by decide +kernel
theorem wX2_priceOf_f7 : Cond.fieldLink RX2 7 "TwoTongues$Hearings" "people" "LTwoTongues$People;" ∈ wsX2_priceOf := by decide +kernel
theorem wX2_priceOf_f17 : Cond.fieldLink RX2 17 "TwoTongues$Hearings" "claims" "LTwoTongues$Claims;" ∈ wsX2_priceOf := by decide +kernel
theorem wX2_priceOf_s17 : Cond.sameField "TwoTongues$Hearings" "TwoTongues$Order" "claims" "LTwoTongues$Claims;" ∈ wsX2_priceOf := by decide +kernel
theorem wX2_priceOf_f35 : Cond.fieldLink RX2 35 "TwoTongues$Claims" "elder" "[I" ∈ wsX2_priceOf := by decide +kernel
theorem wX2_priceOf_f13 : Cond.fieldLink RX2 13 "TwoTongues$Hearings" "from" "I" ∈ wsX2_priceOf := by decide +kernel
theorem wX2_priceOf_f44 : Cond.fieldLink RX2 44 "TwoTongues$Claims" "weight" "[I" ∈ wsX2_priceOf := by decide +kernel
set_option maxRecDepth 100000 in
set_option maxHeartbeats 4000000 in
theorem tX2_priceOf {ad : Nat → Nat → Nat} (X : Ctx) (γ : Nat → Nat) (S : St) (p1 : Int32) (p2 : Int32) : JJ X ad γ (RQm X ad 1 22 (outpi S)) (fcm (outpi S)) 1 22 cX2_priceOf 3 RX2 wsX2_priceOf (some .int) (fX2_priceOf S p1 p2) S 0 [(0, .ref (ad 2 0)), (1, .int p1), (2, .int p2)] [] := by
  unfold fX2_priceOf
  refine j_aload_n 0 0 dX2_priceOf_0 rfl rfl ?_
  refine j_getr (c2 := 6) (n2 := 0) 1 3 nX2_priceOf_X2 rfl (by decide) (prs_mem (by decide) (by decide)) (by decide) (by decide) wX2_priceOf_f7 (Or.inl rfl) rfl rfl rfl dX2_priceOf_1 ?_
  refine j_aload_n 4 0 dX2_priceOf_4 rfl rfl ?_
  refine j_getr (c2 := 0) (n2 := 0) 5 0 nX2_priceOf_X2 rfl (by decide) (prs_mem (by decide) (by decide)) (by decide) (by decide) wX2_priceOf_f17 (Or.inr wX2_priceOf_s17) rfl rfl rfl dX2_priceOf_5 ?_
  refine j_getr (c2 := 14) (n2 := 0) 8 2 nX2_priceOf_X0 rfl (by decide) (prs_mem (by decide) (by decide)) (by decide) (by decide) wX2_priceOf_f35 (Or.inl rfl) rfl rfl rfl dX2_priceOf_8 ?_
  refine j_iload_n 11 1 dX2_priceOf_11 rfl rfl ?_
  refine j_iald (c := 14) (n := 0) (L := 9) 12 (prs_mem (by decide) (by decide)) (by decide) rfl rfl rfl dX2_priceOf_12 ?_
  refine j_aload_n 13 0 dX2_priceOf_13 rfl rfl ?_
  refine j_geti 14 4 nX2_priceOf_X2 rfl (by decide) (prs_mem (by decide) (by decide)) (by decide) (by decide) wX2_priceOf_f13 (Or.inl rfl) rfl dX2_priceOf_14 ?_
  refine j_iload_n 17 2 dX2_priceOf_17 rfl rfl ?_
  refine j_iadd 18 dX2_priceOf_18 ?_
  refine j_iconst (v := 1) 19 dX2_priceOf_19 (by decide) ?_
  refine j_isub 20 dX2_priceOf_20 ?_
  refine j_callV_pi 21 rfl (by decide) (prs_mem (by decide) (by decide))  [.int (gA S 14 0 p1.toNatClampNeg), .int (((gI S 2 0 4) + p2) - 1)] [] gX2_priceOf_X7_isDead rfl eX7_isDead ⟨Nat.le_of_ble_eq_true rfl, Nat.le_of_ble_eq_true rfl⟩ rfl rfl (Nat.le_of_ble_eq_true rfl) dX2_priceOf_21 (kX7_isDead S (gA S 14 0 p1.toNatClampNeg) (((gI S 2 0 4) + p2) - 1)) (fun b_1 γ => ?_)
  refine j_if_eq 24 39 dX2_priceOf_24 (by decide) (fun _ => ?_) (fun _ => ?_)
  · refine j_iconst (v := 0) 39 dX2_priceOf_39 (by decide) ?_
    exact j_iret 40 rfl dX2_priceOf_40
  · refine j_aload_n 27 0 dX2_priceOf_27 rfl rfl ?_
    refine j_getr (c2 := 0) (n2 := 0) 28 0 nX2_priceOf_X2 rfl (by decide) (prs_mem (by decide) (by decide)) (by decide) (by decide) wX2_priceOf_f17 (Or.inr wX2_priceOf_s17) rfl rfl rfl dX2_priceOf_28 ?_
    refine j_getr (c2 := 13) (n2 := 0) 31 1 nX2_priceOf_X0 rfl (by decide) (prs_mem (by decide) (by decide)) (by decide) (by decide) wX2_priceOf_f44 (Or.inl rfl) rfl rfl rfl dX2_priceOf_31 ?_
    refine j_iload_n 34 1 dX2_priceOf_34 rfl rfl ?_
    refine j_iald (c := 13) (n := 0) (L := 9) 35 (prs_mem (by decide) (by decide)) (by decide) rfl rfl rfl dX2_priceOf_35 ?_
    refine j_goto 36 40 dX2_priceOf_36 (by decide) ?_
    exact j_iret 40 rfl dX2_priceOf_40
set_option maxRecDepth 100000 in
set_option maxHeartbeats 4000000 in
theorem kX2_priceOf {ad : Nat → Nat → Nat} (S : St) (p1 : Int32) (p2 : Int32) : ∀ b, fX2_priceOf S p1 p2 = some b → ∀ l dC dI cy, CT l dC dI cy ad yX2_priceOf wsX2_priceOf 1 22 [.ref (ad 2 0), .int p1, .int p2] S (some (.int b)) S :=
  fun b hb l dC dI cy => ct_of (l := l) (dC := dC) (dI := dI) (cy := cy) (outpi S) (by decide) rfl (Nat.le_of_ble_eq_true rfl) rfl (fun X γ => tX2_priceOf X γ S p1 p2) b hb
-- X5_restWith_h
theorem nX5_restWith_X2 : ∀ w ∈ u_ws RX2 TX2 5, w ∈ wsX5_restWith := by decide +kernel
theorem wX5_restWith_f9 : Cond.fieldLink RX5 9 "TwoTongues$Order" "rest" "[I" ∈ wsX5_restWith := by decide +kernel
set_option maxRecDepth 100000 in
set_option maxHeartbeats 4000000 in
theorem tX5_restWith_h {ad : Nat → Nat → Nat} (X : Ctx) (γ : Nat → Nat) (S : St) (p1 : Int32) (p2 : Int32) (p3 : Int32) : JJ X ad γ (RQm X ad 2 44 (outpi S)) (fcm (outpi S)) 2 44 cX5_restWith 4 RX5 wsX5_restWith (some .int) (fX5_restWith_h S p1 p2 p3) S 0 [(0, .ref (ad 2 0)), (1, .int p1), (2, .int p2), (3, .int p3)] [] := by
  unfold fX5_restWith_h
  refine j_aload_n 0 0 dX5_restWith_0 rfl rfl ?_
  refine j_iload_n 1 1 dX5_restWith_1 rfl rfl ?_
  refine j_iload_n 2 3 dX5_restWith_2 rfl rfl ?_
  refine j_aload_n 3 0 dX5_restWith_3 rfl rfl ?_
  refine j_iload_n 4 1 dX5_restWith_4 rfl rfl ?_
  refine j_callA_pi 5 rfl (by decide) (prs_mem (by decide) (by decide))  [.int p1] [.int p3, .int p1, .ref (ad 2 0)] (n := 1) (owner := "TwoTongues$Order") (x := ⟨"TwoTongues$Order", "lengthOf", "(I)I"⟩) gX5_restWith_X2_lengthOf_u57X2 rfl (by decide +kernel) (by decide +kernel) ⟨Nat.le_of_ble_eq_true rfl, Nat.le_of_ble_eq_true rfl⟩ rfl rfl (Nat.le_of_ble_eq_true rfl) dX5_restWith_5 (kX2_lengthOf S p1) (fun b_1 γ => ?_)
  refine j_iadd 8 dX5_restWith_8 ?_
  refine j_callA_pi 9 rfl (by decide) (prs_mem (by decide) (by decide))  [.int p1, .int (p3 + b_1)] [] (n := 2) (owner := "TwoTongues$Order") (x := ⟨"TwoTongues$Order", "priceOf", "(II)I"⟩) gX5_restWith_X2_priceOf_u60X2 rfl (by decide +kernel) (by decide +kernel) ⟨Nat.le_of_ble_eq_true rfl, Nat.le_of_ble_eq_true rfl⟩ rfl rfl (Nat.le_of_ble_eq_true rfl) dX5_restWith_9 (kX2_priceOf S p1 (p3 + b_1)) (fun b_2 γ => ?_)
  refine j_aload_n 12 0 dX5_restWith_12 rfl rfl ?_
  refine j_getr (c2 := 19) (n2 := 0) 13 1 nX5_restWith_X2 rfl (by decide) (prs_mem (by decide) (by decide)) (by decide) (by decide) wX5_restWith_f9 (Or.inl rfl) rfl rfl rfl dX5_restWith_13 ?_
  refine j_iload_n 16 2 dX5_restWith_16 rfl rfl ?_
  refine j_iconst (v := 1) 17 dX5_restWith_17 (by decide) ?_
  refine j_iload_n 18 1 dX5_restWith_18 rfl rfl ?_
  refine j_ishl 19 dX5_restWith_19 ?_
  refine j_ior 20 dX5_restWith_20 ?_
  refine j_iald (c := 19) (n := 0) (L := 512) 21 (prs_mem (by decide) (by decide)) (by decide) rfl rfl rfl dX5_restWith_21 ?_
  refine j_iadd 22 dX5_restWith_22 ?_
  exact j_iret 23 rfl dX5_restWith_23
set_option maxRecDepth 100000 in
set_option maxHeartbeats 4000000 in
theorem kX5_restWith_h {ad : Nat → Nat → Nat} (S : St) (p1 : Int32) (p2 : Int32) (p3 : Int32) : ∀ b, fX5_restWith_h S p1 p2 p3 = some b → ∀ l dC dI cy, CT l dC dI cy ad yX5_restWith wsX5_restWith 2 44 [.ref (ad 2 0), .int p1, .int p2, .int p3] S (some (.int b)) S :=
  fun b hb l dC dI cy => ct_of (l := l) (dC := dC) (dI := dI) (cy := cy) (outpi S) (by decide) rfl (Nat.le_of_ble_eq_true rfl) rfl (fun X γ => tX5_restWith_h X γ S p1 p2 p3) b hb
-- X5_cheapestRest_h
theorem nX5_cheapestRest_X0 : ∀ w ∈ u_ws RX0 TX0 7, w ∈ wsX5_cheapestRest := by decide +kernel
theorem nX5_cheapestRest_X2 : ∀ w ∈ u_ws RX2 TX2 5, w ∈ wsX5_cheapestRest := by decide +kernel
theorem wX5_cheapestRest_f25 : Cond.fieldLink RX5 25 "TwoTongues$Order" "all" "I" ∈ wsX5_cheapestRest := by decide +kernel
theorem wX5_cheapestRest_c39 : Cond.constant RX5 39 (1000000000) ∈ wsX5_cheapestRest := by decide +kernel
theorem wX5_cheapestRest_f15 : Cond.fieldLink RX5 15 "TwoTongues$Order" "claims" "LTwoTongues$Claims;" ∈ wsX5_cheapestRest := by decide +kernel
theorem wX5_cheapestRest_f33 : Cond.fieldLink RX5 33 "TwoTongues$Claims" "size" "I" ∈ wsX5_cheapestRest := by decide +kernel
theorem wX5_cheapestRest_stX11_hasBit : Cond.static yX11_hasBit ∈ wsX5_cheapestRest := by decide +kernel
theorem wX5_cheapestRest_inX11_hasBit : Cond.initialized yX11_hasBit.cls ∈ wsX5_cheapestRest := by decide +kernel
theorem wX5_cheapestRest_m51 : Cond.methodLink RX5 51 Lib.Math.min.name ∈ wsX5_cheapestRest := by decide +kernel
theorem wX5_cheapestRest_msmin : Cond.static Lib.Math.min.name ∈ wsX5_cheapestRest := by decide +kernel
theorem wX5_cheapestRest_mi : Cond.initialized "java/lang/Math" ∈ wsX5_cheapestRest := by decide +kernel
theorem wX5_cheapestRest_mcmin : Cond.code Lib.Math.min.name Lib.Math.min.code 2 (some .int) ∈ wsX5_cheapestRest := by decide +kernel
set_option maxRecDepth 100000 in
set_option maxHeartbeats 4000000 in
theorem tX5_cheapestRest_h_L24 {ad : Nat → Nat → Nat} (X : Ctx) (F : Nat) (S : St) (x1 : Int32) (x3 : Int32)   : ∀ (n : Nat) (γ : Nat → Nat) (x2 : Int32) (x4 : Int32), JJ X ad γ (RQm X ad 3 67 (outpi S)) (fcm (outpi S)) 3 67 cX5_cheapestRest 5 RX5 wsX5_cheapestRest (some .int) (fX5_cheapestRest_h_L24 F S x1 x3 n x2 x4) S 24 [(0, .ref (ad 2 0)), (1, .int x1), (2, .int x2), (3, .int x3), (4, .int x4)] [] := by
  intro n
  induction n with
  | zero => intro _ _ _; exact j_none
  | succ n ih =>
    intro γ x2 x4
    rw [show fX5_cheapestRest_h_L24 F S x1 x3 (n + 1) x2 x4 = fX5_cheapestRest_h_b24 F S x1 x3 (fX5_cheapestRest_h_L24 F S x1 x3 n) x2 x4 from rfl]
    unfold fX5_cheapestRest_h_b24
    refine j_iload 24 4 dX5_cheapestRest_24 rfl ?_
    refine j_aload_n 26 0 dX5_cheapestRest_26 rfl rfl ?_
    refine j_getr (c2 := 0) (n2 := 0) 27 0 nX5_cheapestRest_X2 rfl (by decide) (prs_mem (by decide) (by decide)) (by decide) (by decide) wX5_cheapestRest_f15 (Or.inl rfl) rfl rfl rfl dX5_cheapestRest_27 ?_
    refine j_geti 30 6 nX5_cheapestRest_X0 rfl (by decide) (prs_mem (by decide) (by decide)) (by decide) (by decide) wX5_cheapestRest_f33 (Or.inl rfl) rfl dX5_cheapestRest_30 ?_
    refine j_icmp_ge 33 71 dX5_cheapestRest_33 (by decide) (fun _ => ?_) (fun _ => ?_)
    · refine j_iload_n 71 2 dX5_cheapestRest_71 rfl rfl ?_
      exact j_iret 72 rfl dX5_cheapestRest_72
    · refine j_aload_n 36 0 dX5_cheapestRest_36 rfl rfl ?_
      refine j_geti 37 2 nX5_cheapestRest_X2 rfl (by decide) (prs_mem (by decide) (by decide)) (by decide) (by decide) wX5_cheapestRest_f25 (Or.inl rfl) rfl dX5_cheapestRest_37 ?_
      refine j_iload_n 40 1 dX5_cheapestRest_40 rfl rfl ?_
      refine j_iconst (v := (-1)) 41 dX5_cheapestRest_41 (by decide) ?_
      refine j_ixor 42 dX5_cheapestRest_42 ?_
      refine j_iand 43 dX5_cheapestRest_43 ?_
      refine j_iload 44 4 dX5_cheapestRest_44 rfl ?_
      refine j_callSN_pi 46  [.int ((gI S 2 0 2) &&& (x1 ^^^ (-1))), .int x4] [] (host := "TwoTongues") gX5_cheapestRest_X11_hasBit_n43 rfl (by decide +kernel) wX5_cheapestRest_stX11_hasBit wX5_cheapestRest_inX11_hasBit eX11_hasBit ⟨Nat.le_of_ble_eq_true rfl, Nat.le_of_ble_eq_true rfl⟩ rfl rfl (Nat.le_of_ble_eq_true rfl) dX5_cheapestRest_46 (kX11_hasBit S ((gI S 2 0 2) &&& (x1 ^^^ (-1))) x4) (fun b_2 γ => ?_)
      refine j_if_eq 49 65 dX5_cheapestRest_49 (by decide) (fun _ => ?_) (fun _ => ?_)
      · refine j_iinc (v := x4 + 1) (lv2 := [(4, .int (x4 + 1)), (0, .ref (ad 2 0)), (1, .int x1), (2, .int x2), (3, .int x3)]) 65 4 dX5_cheapestRest_65 rfl rfl (by decide) rfl ?_
        refine j_goto 68 24 dX5_cheapestRest_68 (by decide) ?_
        refine j_sub [1, 2, 3, 4, 0] rfl ?_
        exact ih _ x2 (x4 + 1)
      · refine j_iload_n 52 2 dX5_cheapestRest_52 rfl rfl ?_
        refine j_aload_n 53 0 dX5_cheapestRest_53 rfl rfl ?_
        refine j_iload 54 4 dX5_cheapestRest_54 rfl ?_
        refine j_iload_n 56 1 dX5_cheapestRest_56 rfl rfl ?_
        refine j_iload_n 57 3 dX5_cheapestRest_57 rfl rfl ?_
        refine j_callU_pi 58 rfl (by decide) (prs_mem (by decide) (by decide))  [.int x4, .int x1, .int x3] [.int x2] (n := 3) (owner := "TwoTongues$Order") (x := ⟨"TwoTongues$Order", "restWith", "(III)I"⟩) gX5_cheapestRest_X5_restWith_u47X2 rfl rfl (by decide +kernel) ⟨Nat.le_of_ble_eq_true rfl, Nat.le_of_ble_eq_true rfl⟩ rfl rfl (Nat.le_of_ble_eq_true rfl) dX5_cheapestRest_58 (kX5_restWith_h S x4 x1 x3) (fun b_3 γ => ?_)
        refine j_mmin 61 dX5_cheapestRest_61 wX5_cheapestRest_m51 wX5_cheapestRest_msmin wX5_cheapestRest_mi wX5_cheapestRest_mcmin ⟨Nat.le_of_ble_eq_true rfl, Nat.le_of_ble_eq_true rfl⟩ ?_
        refine j_bndi (fun x2_4 => ?_)
        refine j_istore_n (lv2 := [(2, .int x2_4), (0, .ref (ad 2 0)), (1, .int x1), (3, .int x3), (4, .int x4)]) 64 dX5_cheapestRest_64 rfl (by decide) rfl ?_
        refine j_iinc (v := x4 + 1) (lv2 := [(4, .int (x4 + 1)), (2, .int x2_4), (0, .ref (ad 2 0)), (1, .int x1), (3, .int x3)]) 65 4 dX5_cheapestRest_65 rfl rfl (by decide) rfl ?_
        refine j_goto 68 24 dX5_cheapestRest_68 (by decide) ?_
        refine j_sub [2, 3, 1, 4, 0] rfl ?_
        exact ih _ x2_4 (x4 + 1)
set_option maxRecDepth 100000 in
set_option maxHeartbeats 4000000 in
theorem tX5_cheapestRest_h_j14 {ad : Nat → Nat → Nat} (X : Ctx) (γ : Nat → Nat) (F : Nat) (S : St) (x1 : Int32) (s0 : Int32)   : JJ X ad γ (RQm X ad 3 67 (outpi S)) (fcm (outpi S)) 3 67 cX5_cheapestRest 5 RX5 wsX5_cheapestRest (some .int) (fX5_cheapestRest_h_j14 F S x1 s0) S 14 [(0, .ref (ad 2 0)), (1, .int x1)] [.int s0] := by
  unfold fX5_cheapestRest_h_j14
  refine j_istore_n (lv2 := [(2, .int s0), (0, .ref (ad 2 0)), (1, .int x1)]) 14 dX5_cheapestRest_14 rfl (by decide) rfl ?_
  refine j_aload_n 15 1 dX5_cheapestRest_15 rfl rfl ?_
  refine j_iload_n 16 2 dX5_cheapestRest_16 rfl rfl ?_
  refine j_callU_pi 17 rfl (by decide) (prs_mem (by decide) (by decide))  [.int x1] [] (n := 1) (owner := "TwoTongues$Order") (x := ⟨"TwoTongues$Order", "lengthOfAll", "(I)I"⟩) gX5_cheapestRest_X5_lengthOfAll_u40X2 rfl rfl (by decide +kernel) ⟨Nat.le_of_ble_eq_true rfl, Nat.le_of_ble_eq_true rfl⟩ rfl rfl (Nat.le_of_ble_eq_true rfl) dX5_cheapestRest_17 (kX5_lengthOfAll_h F S x1) (fun b_1 γ => ?_)
  refine j_istore_n (lv2 := [(3, .int b_1), (2, .int s0), (0, .ref (ad 2 0)), (1, .int x1)]) 20 dX5_cheapestRest_20 rfl (by decide) rfl ?_
  refine j_iconst (v := 0) 21 dX5_cheapestRest_21 (by decide) ?_
  refine j_istore (lv2 := [(4, .int 0), (3, .int b_1), (2, .int s0), (0, .ref (ad 2 0)), (1, .int x1)]) 22 dX5_cheapestRest_22 (by decide) rfl ?_
  refine j_sub [3, 4, 2, 1, 0] rfl ?_
  exact tX5_cheapestRest_h_L24 X F S x1 b_1 F _ s0 0
set_option maxRecDepth 100000 in
set_option maxHeartbeats 4000000 in
theorem tX5_cheapestRest_h {ad : Nat → Nat → Nat} (X : Ctx) (γ : Nat → Nat) (F : Nat) (S : St) (p1 : Int32) : JJ X ad γ (RQm X ad 3 67 (outpi S)) (fcm (outpi S)) 3 67 cX5_cheapestRest 5 RX5 wsX5_cheapestRest (some .int) (fX5_cheapestRest_h F S p1) S 0 [(0, .ref (ad 2 0)), (1, .int p1)] [] := by
  unfold fX5_cheapestRest_h
  refine j_iload_n 0 1 dX5_cheapestRest_0 rfl rfl ?_
  refine j_aload_n 1 0 dX5_cheapestRest_1 rfl rfl ?_
  refine j_geti 2 2 nX5_cheapestRest_X2 rfl (by decide) (prs_mem (by decide) (by decide)) (by decide) (by decide) wX5_cheapestRest_f25 (Or.inl rfl) rfl dX5_cheapestRest_2 ?_
  refine j_icmp_ne 5 12 dX5_cheapestRest_5 (by decide) (fun _ => ?_) (fun _ => ?_)
  · refine j_ldc (v := 1000000000) 12 dX5_cheapestRest_12 wX5_cheapestRest_c39 ?_
    exact tX5_cheapestRest_h_j14 X _ F S p1 1000000000
  · refine j_iconst (v := 0) 8 dX5_cheapestRest_8 (by decide) ?_
    refine j_goto 9 14 dX5_cheapestRest_9 (by decide) ?_
    exact tX5_cheapestRest_h_j14 X _ F S p1 0
set_option maxRecDepth 100000 in
set_option maxHeartbeats 4000000 in
theorem kX5_cheapestRest_h {ad : Nat → Nat → Nat} (F : Nat) (S : St) (p1 : Int32) : ∀ b, fX5_cheapestRest_h F S p1 = some b → ∀ l dC dI cy, CT l dC dI cy ad yX5_cheapestRest wsX5_cheapestRest 3 67 [.ref (ad 2 0), .int p1] S (some (.int b)) S :=
  fun b hb l dC dI cy => ct_of (l := l) (dC := dC) (dI := dI) (cy := cy) (outpi S) (by decide) rfl (Nat.le_of_ble_eq_true rfl) rfl (fun X γ => tX5_cheapestRest_h X γ F S p1) b hb
