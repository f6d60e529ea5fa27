-- X5_nextOf_p
theorem nX5_nextOf_X6 : ∀ w ∈ u_ws RX6 TX6 4, w ∈ wsX5_nextOf := by decide +kernel
set_option maxRecDepth 100000 in
set_option maxHeartbeats 4000000 in
theorem tX5_nextOf_p_L8 {ad : Nat → Nat → Nat} (X : Ctx) (F : Nat) (S : St) (x1 : Int32) (x2 : Int32)   : ∀ (n : Nat) (γ : Nat → Nat) (x3 : Int32), JJ X ad γ (RQm X ad 2 45 (outpi S)) (fcm (outpi S)) 2 45 cX5_nextOf 4 RX5 wsX5_nextOf (some .int) (fX5_nextOf_p_L8 F S x1 x2 n x3) S 8 [(0, .ref (ad 5 0)), (1, .int x1), (2, .int x2), (3, .int x3)] [] := by
  intro n
  induction n with
  | zero => intro _ _; exact j_none
  | succ n ih =>
    intro γ x3
    rw [show fX5_nextOf_p_L8 F S x1 x2 (n + 1) x3 = fX5_nextOf_p_b8 F S x1 x2 (fX5_nextOf_p_L8 F S x1 x2 n) x3 from rfl]
    unfold fX5_nextOf_p_b8
    refine j_iload_n 8 3 dX5_nextOf_8 rfl rfl ?_
    refine j_aload_n 9 0 dX5_nextOf_9 rfl rfl ?_
    refine j_getr (c2 := 0) (n2 := 0) 10 0 nX5_nextOf_X6 rfl (by decide) (prs_mem (by decide) (by decide)) (by decide) (by decide) wX5_nextOf_f15 (Or.inl rfl) rfl rfl rfl dX5_nextOf_10 ?_
    refine j_geti 13 6 nX5_nextOf_X0 rfl (by decide) (prs_mem (by decide) (by decide)) (by decide) (by decide) wX5_nextOf_f33 (Or.inl rfl) rfl dX5_nextOf_13 ?_
    refine j_icmp_ge 16 58 dX5_nextOf_16 (by decide) (fun _ => ?_) (fun _ => ?_)
    · refine j_bipush (v := (-4)) 58 dX5_nextOf_58 (by decide) ?_
      exact j_iret 60 rfl dX5_nextOf_60
    · refine j_aload_n 19 0 dX5_nextOf_19 rfl rfl ?_
      refine j_geti 20 2 nX5_nextOf_X6 rfl (by decide) (prs_mem (by decide) (by decide)) (by decide) (by decide) wX5_nextOf_f25 (Or.inl rfl) rfl dX5_nextOf_20 ?_
      refine j_iload_n 23 1 dX5_nextOf_23 rfl rfl ?_
      refine j_iconst (v := (-1)) 24 dX5_nextOf_24 (by decide) ?_
      refine j_ixor 25 dX5_nextOf_25 ?_
      refine j_iand 26 dX5_nextOf_26 ?_
      refine j_iload_n 27 3 dX5_nextOf_27 rfl rfl ?_
      refine j_callSN_pi 28  [.int ((gI S 5 0 2) &&& (x1 ^^^ (-1))), .int x3] [] (host := "TwoTongues") gX5_nextOf_X11_hasBit_n43 rfl (by decide +kernel) wX5_nextOf_stX11_hasBit wX5_nextOf_inX11_hasBit eX11_hasBit ⟨Nat.le_of_ble_eq_true rfl, Nat.le_of_ble_eq_true rfl⟩ rfl rfl (Nat.le_of_ble_eq_true rfl) dX5_nextOf_28 (kX11_hasBit S ((gI S 5 0 2) &&& (x1 ^^^ (-1))) x3) (fun b_2 γ => ?_)
      refine j_if_eq 31 52 dX5_nextOf_31 (by decide) (fun _ => ?_) (fun _ => ?_)
      · refine j_iinc (v := x3 + 1) (lv2 := [(3, .int (x3 + 1)), (0, .ref (ad 5 0)), (1, .int x1), (2, .int x2)]) 52 3 dX5_nextOf_52 rfl rfl (by decide) rfl ?_
        refine j_goto 55 8 dX5_nextOf_55 (by decide) ?_
        refine j_sub [1, 2, 3, 0] rfl ?_
        exact ih _ (x3 + 1)
      · refine j_aload_n 34 0 dX5_nextOf_34 rfl rfl ?_
        refine j_iload_n 35 3 dX5_nextOf_35 rfl rfl ?_
        refine j_iload_n 36 1 dX5_nextOf_36 rfl rfl ?_
        refine j_iload_n 37 2 dX5_nextOf_37 rfl rfl ?_
        refine j_callU_pi 38 rfl (by decide) (prs_mem (by decide) (by decide))  [.int x3, .int x1, .int x2] [] (n := 3) (owner := "TwoTongues$Order") (x := ⟨"TwoTongues$Order", "restWith", "(III)I"⟩) gX5_nextOf_X5_restWith_u47X6 rfl rfl (by decide +kernel) ⟨Nat.le_of_ble_eq_true rfl, Nat.le_of_ble_eq_true rfl⟩ rfl rfl (Nat.le_of_ble_eq_true rfl) dX5_nextOf_38 (kX5_restWith_p S x3 x1 x2) (fun b_3 γ => ?_)
        refine j_aload_n 41 0 dX5_nextOf_41 rfl rfl ?_
        refine j_getr (c2 := 33) (n2 := 0) 42 1 nX5_nextOf_X6 rfl (by decide) (prs_mem (by decide) (by decide)) (by decide) (by decide) wX5_nextOf_f9 (Or.inl rfl) rfl rfl rfl dX5_nextOf_42 ?_
        refine j_iload_n 45 1 dX5_nextOf_45 rfl rfl ?_
        refine j_iald (c := 33) (n := 0) (L := 512) 46 (prs_mem (by decide) (by decide)) (by decide) rfl rfl rfl dX5_nextOf_46 ?_
        refine j_icmp_ne 47 52 dX5_nextOf_47 (by decide) (fun _ => ?_) (fun _ => ?_)
        · refine j_iinc (v := x3 + 1) (lv2 := [(3, .int (x3 + 1)), (0, .ref (ad 5 0)), (1, .int x1), (2, .int x2)]) 52 3 dX5_nextOf_52 rfl rfl (by decide) rfl ?_
          refine j_goto 55 8 dX5_nextOf_55 (by decide) ?_
          refine j_sub [1, 2, 3, 0] rfl ?_
          exact ih _ (x3 + 1)
        · refine j_iload_n 50 3 dX5_nextOf_50 rfl rfl ?_
          exact j_iret 51 rfl dX5_nextOf_51
set_option maxRecDepth 100000 in
set_option maxHeartbeats 4000000 in
theorem tX5_nextOf_p {ad : Nat → Nat → Nat} (X : Ctx) (γ : Nat → Nat) (F : Nat) (S : St) (p1 : Int32) : JJ X ad γ (RQm X ad 2 45 (outpi S)) (fcm (outpi S)) 2 45 cX5_nextOf 4 RX5 wsX5_nextOf (some .int) (fX5_nextOf_p F S p1) S 0 [(0, .ref (ad 5 0)), (1, .int p1)] [] := by
  unfold fX5_nextOf_p
  refine j_aload_n 0 0 dX5_nextOf_0 rfl rfl ?_
  refine j_iload_n 1 1 dX5_nextOf_1 rfl rfl ?_
  refine j_callU_pi 2 rfl (by decide) (prs_mem (by decide) (by decide))  [.int p1] [] (n := 1) (owner := "TwoTongues$Order") (x := ⟨"TwoTongues$Order", "lengthOfAll", "(I)I"⟩) gX5_nextOf_X5_lengthOfAll_u40X6 rfl rfl (by decide +kernel) ⟨Nat.le_of_ble_eq_true rfl, Nat.le_of_ble_eq_true rfl⟩ rfl rfl (Nat.le_of_ble_eq_true rfl) dX5_nextOf_2 (kX5_lengthOfAll_p F S p1) (fun b_1 γ => ?_)
  refine j_istore_n (lv2 := [(2, .int b_1), (0, .ref (ad 5 0)), (1, .int p1)]) 5 dX5_nextOf_5 rfl (by decide) rfl ?_
  refine j_iconst (v := 0) 6 dX5_nextOf_6 (by decide) ?_
  refine j_istore_n (lv2 := [(3, .int 0), (2, .int b_1), (0, .ref (ad 5 0)), (1, .int p1)]) 7 dX5_nextOf_7 rfl (by decide) rfl ?_
  refine j_sub [2, 3, 1, 0] rfl ?_
  exact tX5_nextOf_p_L8 X F S p1 b_1 F _ 0
set_option maxRecDepth 100000 in
set_option maxHeartbeats 4000000 in
theorem kX5_nextOf_p {ad : Nat → Nat → Nat} (F : Nat) (S : St) (p1 : Int32) : ∀ b, fX5_nextOf_p F S p1 = some b → ∀ l dC dI cy, CT l dC dI cy ad yX5_nextOf wsX5_nextOf 2 45 [.ref (ad 5 0), .int p1] S (some (.int b)) S :=
  fun b hb l dC dI cy => ct_of (l := l) (dC := dC) (dI := dI) (cy := cy) (outpi S) (by decide) rfl (Nat.le_of_ble_eq_true rfl) rfl (fun X γ => tX5_nextOf_p X γ F S p1) b hb
-- X5_claimAt_p
theorem nX5_claimAt_X6 : ∀ w ∈ u_ws RX6 TX6 4, w ∈ wsX5_claimAt := by decide +kernel
set_option maxRecDepth 100000 in
set_option maxHeartbeats 4000000 in
theorem tX5_claimAt_p_L4 {ad : Nat → Nat → Nat} (X : Ctx) (F : Nat) (S : St) (x1 : Int32)   : ∀ (n : Nat) (γ : Nat → Nat) (x2 : Int32) (x3 : Int32), JJ X ad γ (RQm X ad 3 68 (outpi S)) (fcm (outpi S)) 3 68 cX5_claimAt 5 RX5 wsX5_claimAt (some .int) (fX5_claimAt_p_L4 F S x1 n x2 x3) S 4 [(0, .ref (ad 5 0)), (1, .int x1), (2, .int x2), (3, .int x3)] [] := by
  intro n
  induction n with
  | zero => intro _ _ _; exact j_none
  | succ n ih =>
    intro γ x2 x3
    rw [show fX5_claimAt_p_L4 F S x1 (n + 1) x2 x3 = fX5_claimAt_p_b4 F S x1 (fX5_claimAt_p_L4 F S x1 n) x2 x3 from rfl]
    unfold fX5_claimAt_p_b4
    refine j_iload_n 4 3 dX5_claimAt_4 rfl rfl ?_
    refine j_aload_n 5 0 dX5_claimAt_5 rfl rfl ?_
    refine j_getr (c2 := 0) (n2 := 0) 6 0 nX5_claimAt_X6 rfl (by decide) (prs_mem (by decide) (by decide)) (by decide) (by decide) wX5_claimAt_f15 (Or.inl rfl) rfl rfl rfl dX5_claimAt_6 ?_
    refine j_geti 9 6 nX5_claimAt_X0 rfl (by decide) (prs_mem (by decide) (by decide)) (by decide) (by decide) wX5_claimAt_f33 (Or.inl rfl) rfl dX5_claimAt_9 ?_
    refine j_icmp_ge 12 48 dX5_claimAt_12 (by decide) (fun _ => ?_) (fun _ => ?_)
    · refine j_bipush (v := (-4)) 48 dX5_claimAt_48 (by decide) ?_
      exact j_iret 50 rfl dX5_claimAt_50
    · refine j_aload_n 15 0 dX5_claimAt_15 rfl rfl ?_
      refine j_iload_n 16 2 dX5_claimAt_16 rfl rfl ?_
      refine j_callU_pi 17 rfl (by decide) (prs_mem (by decide) (by decide))  [.int x2] [] (n := 1) (owner := "TwoTongues$Order") (x := ⟨"TwoTongues$Order", "nextOf", "(I)I"⟩) gX5_claimAt_X5_nextOf_u36X6 rfl rfl (by decide +kernel) ⟨Nat.le_of_ble_eq_true rfl, Nat.le_of_ble_eq_true rfl⟩ rfl rfl (Nat.le_of_ble_eq_true rfl) dX5_claimAt_17 (kX5_nextOf_p F S x2) (fun b_1 γ => ?_)
      refine j_istore (lv2 := [(4, .int b_1), (0, .ref (ad 5 0)), (1, .int x1), (2, .int x2), (3, .int x3)]) 20 dX5_claimAt_20 (by decide) rfl ?_
      refine j_iload 22 0 dX5_claimAt_22 rfl ?_
      refine j_if_lt 24 32 dX5_claimAt_24 (by decide) (fun _ => ?_) (fun _ => ?_)
      · refine j_iload 32 0 dX5_claimAt_32 rfl ?_
        exact j_iret 34 rfl dX5_claimAt_34
      · refine j_iload_n 27 4 dX5_claimAt_27 rfl rfl ?_
        refine j_iload_n 28 2 dX5_claimAt_28 rfl rfl ?_
        refine j_icmp_ne 29 35 dX5_claimAt_29 (by decide) (fun _ => ?_) (fun _ => ?_)
        · refine j_iload_n 35 3 dX5_claimAt_35 rfl rfl ?_
          refine j_iconst (v := 1) 36 dX5_claimAt_36 (by decide) ?_
          refine j_iload 37 0 dX5_claimAt_37 rfl ?_
          refine j_ishl 39 dX5_claimAt_39 ?_
          refine j_ior 40 dX5_claimAt_40 ?_
          refine j_bndi (fun x2_2 => ?_)
          refine j_istore_n (lv2 := [(2, .int x2_2), (4, .int b_1), (0, .ref (ad 5 0)), (1, .int x1), (3, .int x3)]) 41 dX5_claimAt_41 rfl (by decide) rfl ?_
          refine j_iinc (v := x3 + 1) (lv2 := [(3, .int (x3 + 1)), (2, .int x2_2), (4, .int b_1), (0, .ref (ad 5 0)), (1, .int x1)]) 42 4 dX5_claimAt_42 rfl rfl (by decide) rfl ?_
          refine j_goto 45 4 dX5_claimAt_45 (by decide) ?_
          refine j_sub [3, 4, 1, 0] rfl ?_
          exact ih _ x2_2 (x3 + 1)
        · refine j_iload 32 0 dX5_claimAt_32 rfl ?_
          exact j_iret 34 rfl dX5_claimAt_34
set_option maxRecDepth 100000 in
set_option maxHeartbeats 4000000 in
theorem tX5_claimAt_p {ad : Nat → Nat → Nat} (X : Ctx) (γ : Nat → Nat) (F : Nat) (S : St) (p1 : Int32) : JJ X ad γ (RQm X ad 3 68 (outpi S)) (fcm (outpi S)) 3 68 cX5_claimAt 5 RX5 wsX5_claimAt (some .int) (fX5_claimAt_p F S p1) S 0 [(0, .ref (ad 5 0)), (1, .int p1)] [] := by
  unfold fX5_claimAt_p
  refine j_iconst (v := 0) 0 dX5_claimAt_0 (by decide) ?_
  refine j_istore_n (lv2 := [(2, .int 0), (0, .ref (ad 5 0)), (1, .int p1)]) 1 dX5_claimAt_1 rfl (by decide) rfl ?_
  refine j_iconst (v := 0) 2 dX5_claimAt_2 (by decide) ?_
  refine j_istore_n (lv2 := [(3, .int 0), (2, .int 0), (0, .ref (ad 5 0)), (1, .int p1)]) 3 dX5_claimAt_3 rfl (by decide) rfl ?_
  refine j_sub [2, 3, 1, 0] rfl ?_
  exact tX5_claimAt_p_L4 X F S p1 F _ 0 0
set_option maxRecDepth 100000 in
set_option maxHeartbeats 4000000 in
theorem kX5_claimAt_p {ad : Nat → Nat → Nat} (F : Nat) (S : St) (p1 : Int32) : ∀ b, fX5_claimAt_p F S p1 = some b → ∀ l dC dI cy, CT l dC dI cy ad yX5_claimAt wsX5_claimAt 3 68 [.ref (ad 5 0), .int p1] S (some (.int b)) S :=
  fun b hb l dC dI cy => ct_of (l := l) (dC := dC) (dI := dI) (cy := cy) (outpi S) (by decide) rfl (Nat.le_of_ble_eq_true rfl) rfl (fun X γ => tX5_claimAt_p X γ F S p1) b hb
-- X6_arrangeBy
theorem nX6_arrangeBy_X6 : ∀ w ∈ u_ws RX6 TX6 4, w ∈ wsX6_arrangeBy := by decide +kernel
theorem wX6_arrangeBy_m13 : Cond.methodLink RX6 13 Lib.Math.max.name ∈ wsX6_arrangeBy := by decide +kernel
theorem wX6_arrangeBy_msmax : Cond.static Lib.Math.max.name ∈ wsX6_arrangeBy := by decide +kernel
theorem wX6_arrangeBy_mi : Cond.initialized "java/lang/Math" ∈ wsX6_arrangeBy := by decide +kernel
theorem wX6_arrangeBy_mcmax : Cond.code Lib.Math.max.name Lib.Math.max.code 2 (some .int) ∈ wsX6_arrangeBy := by decide +kernel
theorem wX6_arrangeBy_f7 : Cond.fieldLink RX6 7 "TwoTongues$Payments" "coin" "I" ∈ wsX6_arrangeBy := by decide +kernel
set_option maxRecDepth 100000 in
set_option maxHeartbeats 4000000 in
theorem tX6_arrangeBy {ad : Nat → Nat → Nat} (X : Ctx) (γ : Nat → Nat) (F : Nat) (S : St) (p1 : Int32) (p2 : Int32) : JJ X ad γ (RQm X ad 4 91 outei) (fcm outei) 4 91 cX6_arrangeBy 3 RX6 wsX6_arrangeBy (some .int) (fX6_arrangeBy F S p1 p2) S 0 [(0, .ref (ad 5 0)), (1, .int p1), (2, .int p2)] [] := by
  unfold fX6_arrangeBy
  refine j_aload_n 0 0 dX6_arrangeBy_0 rfl rfl ?_
  refine j_iconst (v := 1) 1 dX6_arrangeBy_1 (by decide) ?_
  refine j_iload_n 2 1 dX6_arrangeBy_2 rfl rfl ?_
  refine j_mmax 3 dX6_arrangeBy_3 wX6_arrangeBy_m13 wX6_arrangeBy_msmax wX6_arrangeBy_mi wX6_arrangeBy_mcmax ⟨Nat.le_of_ble_eq_true rfl, Nat.le_of_ble_eq_true rfl⟩ ?_
  refine j_puti 6 3 nX6_arrangeBy_X6 rfl (by decide) (prs_mem (by decide) (by decide)) (by decide) (by decide) wX6_arrangeBy_f7 (Or.inl rfl) tyX6 tyX6_ok nmX6 rfl (by decide) rfl dX6_arrangeBy_6 (j_bs (fun S_1 => ?_))
  refine j_aload_n 9 0 dX6_arrangeBy_9 rfl rfl ?_
  refine j_iload_n 10 2 dX6_arrangeBy_10 rfl rfl ?_
  refine j_callU_ei 11 rfl (by decide) (prs_mem (by decide) (by decide))  [.int p2] [] (n := 1) (owner := "TwoTongues$Order") (x := ⟨"TwoTongues$Payments", "arrange", "(I)I"⟩) gX6_arrangeBy_X5_arrange_u19X6 rfl rfl (by decide +kernel) ⟨Nat.le_of_ble_eq_true rfl, Nat.le_of_ble_eq_true rfl⟩ rfl rfl (Nat.le_of_ble_eq_true rfl) dX6_arrangeBy_11 (kX5_arrange_p F S_1 p2) (fun b_2 γ => ?_)
  exact j_iret 14 rfl dX6_arrangeBy_14
set_option maxRecDepth 100000 in
set_option maxHeartbeats 4000000 in
theorem kX6_arrangeBy {ad : Nat → Nat → Nat} (F : Nat) (S : St) (p1 : Int32) (p2 : Int32) : ∀ b, fX6_arrangeBy F S p1 p2 = some b → ∀ l dC dI cy, CT l dC dI cy ad yX6_arrangeBy wsX6_arrangeBy 4 91 [.ref (ad 5 0), .int p1, .int p2] S (some (.int b.1)) b.2 :=
  fun b hb l dC dI cy => ct_of (l := l) (dC := dC) (dI := dI) (cy := cy) outei (by decide) rfl (Nat.le_of_ble_eq_true rfl) rfl (fun X γ => tX6_arrangeBy X γ F S p1 p2) b hb
-- X7_has
theorem nX7_has_X7 : ∀ w ∈ u_ws RX7 TX7 12, w ∈ wsX7_has := by decide +kernel
theorem wX7_has_f43 : Cond.fieldLink RX7 43 "TwoTongues$People" "size" "I" ∈ wsX7_has := by decide +kernel
theorem wX7_has_stX11_within : Cond.static yX11_within ∈ wsX7_has := by decide +kernel
theorem wX7_has_inX11_within : Cond.initialized yX11_within.cls ∈ wsX7_has := by decide +kernel
set_option maxRecDepth 100000 in
set_option maxHeartbeats 4000000 in
theorem tX7_has {ad : Nat → Nat → Nat} (X : Ctx) (γ : Nat → Nat) (S : St) (p1 : Int32) : JJ X ad γ (RQm X ad 1 22 (outpi S)) (fcm (outpi S)) 1 22 cX7_has 2 RX7 wsX7_has (some .boolean) (fX7_has S p1) S 0 [(0, .ref (ad 6 0)), (1, .int p1)] [] := by
  unfold fX7_has
  refine j_iload_n 0 1 dX7_has_0 rfl rfl ?_
  refine j_iconst (v := 0) 1 dX7_has_1 (by decide) ?_
  refine j_aload_n 2 0 dX7_has_2 rfl rfl ?_
  refine j_geti 3 6 nX7_has_X7 rfl (by decide) (prs_mem (by decide) (by decide)) (by decide) (by decide) wX7_has_f43 (Or.inl rfl) rfl dX7_has_3 ?_
  refine j_iconst (v := 1) 6 dX7_has_6 (by decide) ?_
  refine j_isub 7 dX7_has_7 ?_
  refine j_callSN_pi 8  [.int p1, .int 0, .int ((gI S 6 0 6) - 1)] [] (host := "TwoTongues") gX7_has_X11_within_n47 rfl (by decide +kernel) wX7_has_stX11_within wX7_has_inX11_within eX11_within ⟨Nat.le_of_ble_eq_true rfl, Nat.le_of_ble_eq_true rfl⟩ rfl rfl (Nat.le_of_ble_eq_true rfl) dX7_has_8 (kX11_within S p1 0 ((gI S 6 0 6) - 1)) (fun b_1 γ => ?_)
  refine j_gd (fun hz => ?_)
  exact j_zret 11 (isB_nar hz) rfl dX7_has_11
set_option maxRecDepth 100000 in
set_option maxHeartbeats 4000000 in
theorem kX7_has {ad : Nat → Nat → Nat} (S : St) (p1 : Int32) : ∀ b, fX7_has S p1 = some b → ∀ l dC dI cy, CT l dC dI cy ad yX7_has wsX7_has 1 22 [.ref (ad 6 0), .int p1] S (some (.int b)) S :=
  fun b hb l dC dI cy => ct_of (l := l) (dC := dC) (dI := dI) (cy := cy) (outpi S) (by decide) rfl (Nat.le_of_ble_eq_true rfl) rfl (fun X γ => tX7_has X γ S p1) b hb
-- X7_inherited
theorem nX7_inherited_X7 : ∀ w ∈ u_ws RX7 TX7 12, w ∈ wsX7_inherited := by decide +kernel
theorem wX7_inherited_f18 : Cond.fieldLink RX7 18 "TwoTongues$People" "parent" "[I" ∈ wsX7_inherited := by decide +kernel
theorem wX7_inherited_f21 : Cond.fieldLink RX7 21 "TwoTongues$People" "otherParent" "[I" ∈ wsX7_inherited := by decide +kernel
theorem wX7_inherited_f27 : Cond.fieldLink RX7 27 "TwoTongues$People" "kins" "[I" ∈ wsX7_inherited := by decide +kernel
set_option maxRecDepth 100000 in
set_option maxHeartbeats 4000000 in
theorem tX7_inherited_j32 {ad : Nat → Nat → Nat} (X : Ctx) (γ : Nat → Nat) (S : St) (x3 : Int32) (s0 : Int32)   : JJ X ad γ (RQm X ad 2 43 (outpi S)) (fcm (outpi S)) 2 43 cX7_inherited 4 RX7 wsX7_inherited (some .int) (fX7_inherited_j32 S x3 s0) S 32 [(0, .ref (ad 6 0)), (3, .int x3)] [.int s0] := by
  unfold fX7_inherited_j32
  refine j_aload_n 32 0 dX7_inherited_32 rfl rfl ?_
  refine j_iload_n 33 1 dX7_inherited_33 rfl rfl ?_
  refine j_callV_pi 34 rfl (by decide) (prs_mem (by decide) (by decide))  [.int x3] [.int s0] gX7_inherited_X7_has rfl eX7_has ⟨Nat.le_of_ble_eq_true rfl, Nat.le_of_ble_eq_true rfl⟩ rfl rfl (Nat.le_of_ble_eq_true rfl) dX7_inherited_34 (kX7_has S x3) (fun b_4 γ => ?_)
  refine j_if_eq 37 49 dX7_inherited_37 (by decide) (fun _ => ?_) (fun _ => ?_)
  · refine j_iconst (v := 0) 49 dX7_inherited_49 (by decide) ?_
    refine j_ior 50 dX7_inherited_50 ?_
    exact j_iret 51 rfl dX7_inherited_51
  · refine j_aload_n 40 0 dX7_inherited_40 rfl rfl ?_
    refine j_getr (c2 := 39) (n2 := 0) 41 5 nX7_inherited_X7 rfl (by decide) (prs_mem (by decide) (by decide)) (by decide) (by decide) wX7_inherited_f27 (Or.inl rfl) rfl rfl rfl dX7_inherited_41 ?_
    refine j_iload_n 44 1 dX7_inherited_44 rfl rfl ?_
    refine j_iald (c := 39) (n := 0) (L := 30) 45 (prs_mem (by decide) (by decide)) (by decide) rfl rfl rfl dX7_inherited_45 ?_
    refine j_goto 46 50 dX7_inherited_46 (by decide) ?_
    refine j_ior 50 dX7_inherited_50 ?_
    exact j_iret 51 rfl dX7_inherited_51
set_option maxRecDepth 100000 in
set_option maxHeartbeats 4000000 in
theorem tX7_inherited {ad : Nat → Nat → Nat} (X : Ctx) (γ : Nat → Nat) (S : St) (p1 : Int32) : JJ X ad γ (RQm X ad 2 43 (outpi S)) (fcm (outpi S)) 2 43 cX7_inherited 4 RX7 wsX7_inherited (some .int) (fX7_inherited S p1) S 0 [(0, .ref (ad 6 0)), (1, .int p1)] [] := by
  unfold fX7_inherited
  refine j_aload_n 0 0 dX7_inherited_0 rfl rfl ?_
  refine j_getr (c2 := 36) (n2 := 0) 1 2 nX7_inherited_X7 rfl (by decide) (prs_mem (by decide) (by decide)) (by decide) (by decide) wX7_inherited_f18 (Or.inl rfl) rfl rfl rfl dX7_inherited_1 ?_
  refine j_iload_n 4 1 dX7_inherited_4 rfl rfl ?_
  refine j_iald (c := 36) (n := 0) (L := 30) 5 (prs_mem (by decide) (by decide)) (by decide) rfl rfl rfl dX7_inherited_5 ?_
  refine j_bndi (fun x2_1 => ?_)
  refine j_istore_n (lv2 := [(2, .int x2_1), (0, .ref (ad 6 0)), (1, .int p1)]) 6 dX7_inherited_6 rfl (by decide) rfl ?_
  refine j_aload_n 7 1 dX7_inherited_7 rfl rfl ?_
  refine j_getr (c2 := 37) (n2 := 0) 8 3 nX7_inherited_X7 rfl (by decide) (prs_mem (by decide) (by decide)) (by decide) (by decide) wX7_inherited_f21 (Or.inl rfl) rfl rfl rfl dX7_inherited_8 ?_
  refine j_iload_n 11 2 dX7_inherited_11 rfl rfl ?_
  refine j_iald (c := 37) (n := 0) (L := 30) 12 (prs_mem (by decide) (by decide)) (by decide) rfl rfl rfl dX7_inherited_12 ?_
  refine j_bndi (fun x3_2 => ?_)
  refine j_istore_n (lv2 := [(3, .int x3_2), (2, .int x2_1), (0, .ref (ad 6 0)), (1, .int p1)]) 13 dX7_inherited_13 rfl (by decide) rfl ?_
  refine j_aload_n 14 2 dX7_inherited_14 rfl rfl ?_
  refine j_iload_n 15 1 dX7_inherited_15 rfl rfl ?_
  refine j_callV_pi 16 rfl (by decide) (prs_mem (by decide) (by decide))  [.int x2_1] [] gX7_inherited_X7_has rfl eX7_has ⟨Nat.le_of_ble_eq_true rfl, Nat.le_of_ble_eq_true rfl⟩ rfl rfl (Nat.le_of_ble_eq_true rfl) dX7_inherited_16 (kX7_has S x2_1) (fun b_3 γ => ?_)
  refine j_if_eq 19 31 dX7_inherited_19 (by decide) (fun _ => ?_) (fun _ => ?_)
  · refine j_iconst (v := 0) 31 dX7_inherited_31 (by decide) ?_
    refine j_sub [2, 0] rfl ?_
    exact tX7_inherited_j32 X _ S x3_2 0
  · refine j_aload_n 22 2 dX7_inherited_22 rfl rfl ?_
    refine j_getr (c2 := 39) (n2 := 0) 23 5 nX7_inherited_X7 rfl (by decide) (prs_mem (by decide) (by decide)) (by decide) (by decide) wX7_inherited_f27 (Or.inl rfl) rfl rfl rfl dX7_inherited_23 ?_
    refine j_iload_n 26 1 dX7_inherited_26 rfl rfl ?_
    refine j_iald (c := 39) (n := 0) (L := 30) 27 (prs_mem (by decide) (by decide)) (by decide) rfl rfl rfl dX7_inherited_27 ?_
    refine j_goto 28 32 dX7_inherited_28 (by decide) ?_
    refine j_sub [2, 0] rfl ?_
    exact tX7_inherited_j32 X _ S x3_2 (gA S 39 0 x2_1.toNatClampNeg)
set_option maxRecDepth 100000 in
set_option maxHeartbeats 4000000 in
theorem kX7_inherited {ad : Nat → Nat → Nat} (S : St) (p1 : Int32) : ∀ b, fX7_inherited S p1 = some b → ∀ l dC dI cy, CT l dC dI cy ad yX7_inherited wsX7_inherited 2 43 [.ref (ad 6 0), .int p1] S (some (.int b)) S :=
  fun b hb l dC dI cy => ct_of (l := l) (dC := dC) (dI := dI) (cy := cy) (outpi S) (by decide) rfl (Nat.le_of_ble_eq_true rfl) rfl (fun X γ => tX7_inherited X γ S p1) b hb
-- X7_add
theorem nX7_add_X7 : ∀ w ∈ u_ws RX7 TX7 12, w ∈ wsX7_add := by decide +kernel
theorem wX7_add_f43 : Cond.fieldLink RX7 43 "TwoTongues$People" "size" "I" ∈ wsX7_add := by decide +kernel
theorem wX7_add_f9 : Cond.fieldLink RX7 9 "TwoTongues$People" "born" "[I" ∈ wsX7_add := by decide +kernel
theorem wX7_add_f15 : Cond.fieldLink RX7 15 "TwoTongues$People" "dead" "[I" ∈ wsX7_add := by decide +kernel
theorem wX7_add_c51 : Cond.constant RX7 51 (1000000) ∈ wsX7_add := by decide +kernel
theorem wX7_add_f18 : Cond.fieldLink RX7 18 "TwoTongues$People" "parent" "[I" ∈ wsX7_add := by decide +kernel
theorem wX7_add_f21 : Cond.fieldLink RX7 21 "TwoTongues$People" "otherParent" "[I" ∈ wsX7_add := by decide +kernel
theorem wX7_add_f24 : Cond.fieldLink RX7 24 "TwoTongues$People" "founds" "[I" ∈ wsX7_add := by decide +kernel
theorem wX7_add_f27 : Cond.fieldLink RX7 27 "TwoTongues$People" "kins" "[I" ∈ wsX7_add := by decide +kernel
set_option maxRecDepth 100000 in
set_option maxHeartbeats 4000000 in
theorem tX7_add {ad : Nat → Nat → Nat} (X : Ctx) (γ : Nat → Nat) (S : St) (p1 : Int32) (p2 : Int32) (p3 : Int32) : JJ X ad γ (RQm X ad 3 66 outei) (fcm outei) 3 66 cX7_add 4 RX7 wsX7_add (some .int) (fX7_add S p1 p2 p3) S 0 [(0, .ref (ad 6 0)), (1, .int p1), (2, .int p2), (3, .int p3)] [] := by
  unfold fX7_add
  refine j_aload_n 0 0 dX7_add_0 rfl rfl ?_
  refine j_geti 1 6 nX7_add_X7 rfl (by decide) (prs_mem (by decide) (by decide)) (by decide) (by decide) wX7_add_f43 (Or.inl rfl) rfl dX7_add_1 ?_
  refine j_bipush (v := 30) 4 dX7_add_4 (by decide) ?_
  refine j_icmp_lt 6 12 dX7_add_6 (by decide) (fun _ => ?_) (fun _ => ?_)
  · refine j_aload_n 12 0 dX7_add_12 rfl rfl ?_
    refine j_getr (c2 := 34) (n2 := 0) 13 0 nX7_add_X7 rfl (by decide) (prs_mem (by decide) (by decide)) (by decide) (by decide) wX7_add_f9 (Or.inl rfl) rfl rfl rfl dX7_add_13 ?_
    refine j_aload_n 16 0 dX7_add_16 rfl rfl ?_
    refine j_geti 17 6 nX7_add_X7 rfl (by decide) (prs_mem (by decide) (by decide)) (by decide) (by decide) wX7_add_f43 (Or.inl rfl) rfl dX7_add_17 ?_
    refine j_iload_n 20 1 dX7_add_20 rfl rfl ?_
    refine j_iast (c := 34) (n := 0) (L := 30) 21 (prs_mem (by decide) (by decide)) (by decide) rfl rfl rfl dX7_add_21 (j_bs (fun S_1 => ?_))
    refine j_aload_n 22 0 dX7_add_22 rfl rfl ?_
    refine j_getr (c2 := 35) (n2 := 0) 23 1 nX7_add_X7 rfl (by decide) (prs_mem (by decide) (by decide)) (by decide) (by decide) wX7_add_f15 (Or.inl rfl) rfl rfl rfl dX7_add_23 ?_
    refine j_aload_n 26 0 dX7_add_26 rfl rfl ?_
    refine j_geti 27 6 nX7_add_X7 rfl (by decide) (prs_mem (by decide) (by decide)) (by decide) (by decide) wX7_add_f43 (Or.inl rfl) rfl dX7_add_27 ?_
    refine j_ldc (v := 1000000) 30 dX7_add_30 wX7_add_c51 ?_
    refine j_iast (c := 35) (n := 0) (L := 30) 32 (prs_mem (by decide) (by decide)) (by decide) rfl rfl rfl dX7_add_32 (j_bs (fun S_2 => ?_))
    refine j_aload_n 33 0 dX7_add_33 rfl rfl ?_
    refine j_getr (c2 := 36) (n2 := 0) 34 2 nX7_add_X7 rfl (by decide) (prs_mem (by decide) (by decide)) (by decide) (by decide) wX7_add_f18 (Or.inl rfl) rfl rfl rfl dX7_add_34 ?_
    refine j_aload_n 37 0 dX7_add_37 rfl rfl ?_
    refine j_geti 38 6 nX7_add_X7 rfl (by decide) (prs_mem (by decide) (by decide)) (by decide) (by decide) wX7_add_f43 (Or.inl rfl) rfl dX7_add_38 ?_
    refine j_iload_n 41 2 dX7_add_41 rfl rfl ?_
    refine j_iast (c := 36) (n := 0) (L := 30) 42 (prs_mem (by decide) (by decide)) (by decide) rfl rfl rfl dX7_add_42 (j_bs (fun S_3 => ?_))
    refine j_aload_n 43 0 dX7_add_43 rfl rfl ?_
    refine j_getr (c2 := 37) (n2 := 0) 44 3 nX7_add_X7 rfl (by decide) (prs_mem (by decide) (by decide)) (by decide) (by decide) wX7_add_f21 (Or.inl rfl) rfl rfl rfl dX7_add_44 ?_
    refine j_aload_n 47 0 dX7_add_47 rfl rfl ?_
    refine j_geti 48 6 nX7_add_X7 rfl (by decide) (prs_mem (by decide) (by decide)) (by decide) (by decide) wX7_add_f43 (Or.inl rfl) rfl dX7_add_48 ?_
    refine j_iload_n 51 3 dX7_add_51 rfl rfl ?_
    refine j_iast (c := 37) (n := 0) (L := 30) 52 (prs_mem (by decide) (by decide)) (by decide) rfl rfl rfl dX7_add_52 (j_bs (fun S_4 => ?_))
    refine j_aload_n 53 0 dX7_add_53 rfl rfl ?_
    refine j_getr (c2 := 38) (n2 := 0) 54 4 nX7_add_X7 rfl (by decide) (prs_mem (by decide) (by decide)) (by decide) (by decide) wX7_add_f24 (Or.inl rfl) rfl rfl rfl dX7_add_54 ?_
    refine j_aload_n 57 0 dX7_add_57 rfl rfl ?_
    refine j_geti 58 6 nX7_add_X7 rfl (by decide) (prs_mem (by decide) (by decide)) (by decide) (by decide) wX7_add_f43 (Or.inl rfl) rfl dX7_add_58 ?_
    refine j_iconst (v := 0) 61 dX7_add_61 (by decide) ?_
    refine j_iast (c := 38) (n := 0) (L := 30) 62 (prs_mem (by decide) (by decide)) (by decide) rfl rfl rfl dX7_add_62 (j_bs (fun S_5 => ?_))
    refine j_aload_n 63 0 dX7_add_63 rfl rfl ?_
    refine j_getr (c2 := 39) (n2 := 0) 64 5 nX7_add_X7 rfl (by decide) (prs_mem (by decide) (by decide)) (by decide) (by decide) wX7_add_f27 (Or.inl rfl) rfl rfl rfl dX7_add_64 ?_
    refine j_aload_n 67 0 dX7_add_67 rfl rfl ?_
    refine j_geti 68 6 nX7_add_X7 rfl (by decide) (prs_mem (by decide) (by decide)) (by decide) (by decide) wX7_add_f43 (Or.inl rfl) rfl dX7_add_68 ?_
    refine j_aload_n 71 0 dX7_add_71 rfl rfl ?_
    refine j_aload_n 72 0 dX7_add_72 rfl rfl ?_
    refine j_geti 73 6 nX7_add_X7 rfl (by decide) (prs_mem (by decide) (by decide)) (by decide) (by decide) wX7_add_f43 (Or.inl rfl) rfl dX7_add_73 ?_
    refine j_callV_pi 76 rfl (by decide) (prs_mem (by decide) (by decide))  [.int (gI S_5 6 0 6)] [.int (gI S_5 6 0 6), .ref (ad 39 0)] gX7_add_X7_inherited rfl eX7_inherited ⟨Nat.le_of_ble_eq_true rfl, Nat.le_of_ble_eq_true rfl⟩ rfl rfl (Nat.le_of_ble_eq_true rfl) dX7_add_76 (kX7_inherited S_5 (gI S_5 6 0 6)) (fun b_6 γ => ?_)
    refine j_iast (c := 39) (n := 0) (L := 30) 79 (prs_mem (by decide) (by decide)) (by decide) rfl rfl rfl dX7_add_79 (j_bs (fun S_7 => ?_))
    refine j_aload_n 80 0 dX7_add_80 rfl rfl ?_
    refine j_dup 81 dX7_add_81 rfl ?_
    refine j_geti 82 6 nX7_add_X7 rfl (by decide) (prs_mem (by decide) (by decide)) (by decide) (by decide) wX7_add_f43 (Or.inl rfl) rfl dX7_add_82 ?_
    refine j_iconst (v := 1) 85 dX7_add_85 (by decide) ?_
    refine j_iadd 86 dX7_add_86 ?_
    refine j_puti 87 6 nX7_add_X7 rfl (by decide) (prs_mem (by decide) (by decide)) (by decide) (by decide) wX7_add_f43 (Or.inl rfl) tyX7 tyX7_ok nmX7 rfl (by decide) rfl dX7_add_87 (j_bs (fun S_8 => ?_))
    refine j_aload_n 90 0 dX7_add_90 rfl rfl ?_
    refine j_geti 91 6 nX7_add_X7 rfl (by decide) (prs_mem (by decide) (by decide)) (by decide) (by decide) wX7_add_f43 (Or.inl rfl) rfl dX7_add_91 ?_
    refine j_iconst (v := 1) 94 dX7_add_94 (by decide) ?_
    refine j_isub 95 dX7_add_95 ?_
    exact j_iret 96 rfl dX7_add_96
  · refine j_bipush (v := (-3)) 9 dX7_add_9 (by decide) ?_
    exact j_iret 11 rfl dX7_add_11
set_option maxRecDepth 100000 in
set_option maxHeartbeats 4000000 in
theorem kX7_add {ad : Nat → Nat → Nat} (S : St) (p1 : Int32) (p2 : Int32) (p3 : Int32) : ∀ b, fX7_add S p1 p2 p3 = some b → ∀ l dC dI cy, CT l dC dI cy ad yX7_add wsX7_add 3 66 [.ref (ad 6 0), .int p1, .int p2, .int p3] S (some (.int b.1)) b.2 :=
  fun b hb l dC dI cy => ct_of (l := l) (dC := dC) (dI := dI) (cy := cy) outei (by decide) rfl (Nat.le_of_ble_eq_true rfl) rfl (fun X γ => tX7_add X γ S p1 p2 p3) b hb
-- X7_addFounder
theorem nX7_addFounder_X7 : ∀ w ∈ u_ws RX7 TX7 12, w ∈ wsX7_addFounder := by decide +kernel
theorem wX7_addFounder_f24 : Cond.fieldLink RX7 24 "TwoTongues$People" "founds" "[I" ∈ wsX7_addFounder := by decide +kernel
theorem wX7_addFounder_f43 : Cond.fieldLink RX7 43 "TwoTongues$People" "size" "I" ∈ wsX7_addFounder := by decide +kernel
theorem wX7_addFounder_f27 : Cond.fieldLink RX7 27 "TwoTongues$People" "kins" "[I" ∈ wsX7_addFounder := by decide +kernel
set_option maxRecDepth 100000 in
set_option maxHeartbeats 4000000 in
theorem tX7_addFounder_L17 {ad : Nat → Nat → Nat} (X : Ctx) (F : Nat) (x2 : Int32)   : ∀ (n : Nat) (γ : Nat → Nat) (x3 : Int32) (x4 : Int32) (S : St), JJ X ad γ (RQm X ad 3 66 outei) (fcm outei) 3 66 cX7_addFounder 5 RX7 wsX7_addFounder (some .int) (fX7_addFounder_L17 F x2 n x3 x4 S) S 17 [(0, .ref (ad 6 0)), (2, .int x2), (3, .int x3), (4, .int x4)] [] := by
  intro n
  induction n with
  | zero => intro _ _ _ _; exact j_none
  | succ n ih =>
    intro γ x3 x4 S
    rw [show fX7_addFounder_L17 F x2 (n + 1) x3 x4 S = fX7_addFounder_b17 F x2 (fX7_addFounder_L17 F x2 n) x3 x4 S from rfl]
    unfold fX7_addFounder_b17
    refine j_iload 17 3 dX7_addFounder_17 rfl ?_
    refine j_aload_n 19 0 dX7_addFounder_19 rfl rfl ?_
    refine j_geti 20 6 nX7_addFounder_X7 rfl (by decide) (prs_mem (by decide) (by decide)) (by decide) (by decide) wX7_addFounder_f43 (Or.inl rfl) rfl dX7_addFounder_20 ?_
    refine j_icmp_ge 23 66 dX7_addFounder_23 (by decide) (fun _ => ?_) (fun _ => ?_)
    · refine j_iload_n 66 2 dX7_addFounder_66 rfl rfl ?_
      exact j_iret 67 rfl dX7_addFounder_67
    · refine j_aload_n 26 0 dX7_addFounder_26 rfl rfl ?_
      refine j_getr (c2 := 39) (n2 := 0) 27 5 nX7_addFounder_X7 rfl (by decide) (prs_mem (by decide) (by decide)) (by decide) (by decide) wX7_addFounder_f27 (Or.inl rfl) rfl rfl rfl dX7_addFounder_27 ?_
      refine j_iload 30 3 dX7_addFounder_30 rfl ?_
      refine j_aload_n 32 0 dX7_addFounder_32 rfl rfl ?_
      refine j_getr (c2 := 38) (n2 := 0) 33 4 nX7_addFounder_X7 rfl (by decide) (prs_mem (by decide) (by decide)) (by decide) (by decide) wX7_addFounder_f24 (Or.inl rfl) rfl rfl rfl dX7_addFounder_33 ?_
      refine j_iload 36 3 dX7_addFounder_36 rfl ?_
      refine j_iald (c := 38) (n := 0) (L := 30) 38 (prs_mem (by decide) (by decide)) (by decide) rfl rfl rfl dX7_addFounder_38 ?_
      refine j_aload_n 39 0 dX7_addFounder_39 rfl rfl ?_
      refine j_iload 40 3 dX7_addFounder_40 rfl ?_
      refine j_callV_pi 42 rfl (by decide) (prs_mem (by decide) (by decide))  [.int x4] [.int (gA S 38 0 x4.toNatClampNeg), .int x4, .ref (ad 39 0)] gX7_addFounder_X7_inherited rfl eX7_inherited ⟨Nat.le_of_ble_eq_true rfl, Nat.le_of_ble_eq_true rfl⟩ rfl rfl (Nat.le_of_ble_eq_true rfl) dX7_addFounder_42 (kX7_inherited S x4) (fun b_2 γ => ?_)
      refine j_ior 45 dX7_addFounder_45 ?_
      refine j_iast (c := 39) (n := 0) (L := 30) 46 (prs_mem (by decide) (by decide)) (by decide) rfl rfl rfl dX7_addFounder_46 (j_bs (fun S_3 => ?_))
      refine j_aload_n 47 0 dX7_addFounder_47 rfl rfl ?_
      refine j_iload 48 3 dX7_addFounder_48 rfl ?_
      refine j_iload_n 50 1 dX7_addFounder_50 rfl rfl ?_
      refine j_callV_pi 51 rfl (by decide) (prs_mem (by decide) (by decide))  [.int x4, .int x2] [] gX7_addFounder_X7_isFounder rfl eX7_isFounder ⟨Nat.le_of_ble_eq_true rfl, Nat.le_of_ble_eq_true rfl⟩ rfl rfl (Nat.le_of_ble_eq_true rfl) dX7_addFounder_51 (kX7_isFounder S_3 x4 x2) (fun b_4 γ => ?_)
      refine j_if_eq 54 60 dX7_addFounder_54 (by decide) (fun _ => ?_) (fun _ => ?_)
      · refine j_iinc (v := x4 + 1) (lv2 := [(4, .int (x4 + 1)), (0, .ref (ad 6 0)), (2, .int x2), (3, .int x3)]) 60 3 dX7_addFounder_60 rfl rfl (by decide) rfl ?_
        refine j_goto 63 17 dX7_addFounder_63 (by decide) ?_
        refine j_sub [1, 2, 3, 0] rfl ?_
        exact ih _ x3 (x4 + 1) S_3
      · refine j_iinc (v := x3 + 1) (lv2 := [(3, .int (x3 + 1)), (0, .ref (ad 6 0)), (2, .int x2), (4, .int x4)]) 57 2 dX7_addFounder_57 rfl rfl (by decide) rfl ?_
        refine j_iinc (v := x4 + 1) (lv2 := [(4, .int (x4 + 1)), (3, .int (x3 + 1)), (0, .ref (ad 6 0)), (2, .int x2)]) 60 3 dX7_addFounder_60 rfl rfl (by decide) rfl ?_
        refine j_goto 63 17 dX7_addFounder_63 (by decide) ?_
        refine j_sub [2, 3, 1, 0] rfl ?_
        exact ih _ (x3 + 1) (x4 + 1) S_3
set_option maxRecDepth 100000 in
set_option maxHeartbeats 4000000 in
theorem tX7_addFounder {ad : Nat → Nat → Nat} (X : Ctx) (γ : Nat → Nat) (F : Nat) (S : St) (p1 : Int32) (p2 : Int32) : JJ X ad γ (RQm X ad 3 66 outei) (fcm outei) 3 66 cX7_addFounder 5 RX7 wsX7_addFounder (some .int) (fX7_addFounder F S p1 p2) S 0 [(0, .ref (ad 6 0)), (1, .int p1), (2, .int p2)] [] := by
  unfold fX7_addFounder
  refine j_aload_n 0 0 dX7_addFounder_0 rfl rfl ?_
  refine j_getr (c2 := 38) (n2 := 0) 1 4 nX7_addFounder_X7 rfl (by decide) (prs_mem (by decide) (by decide)) (by decide) (by decide) wX7_addFounder_f24 (Or.inl rfl) rfl rfl rfl dX7_addFounder_1 ?_
  refine j_iload_n 4 1 dX7_addFounder_4 rfl rfl ?_
  refine j_dup2 5 dX7_addFounder_5 rfl rfl ?_
  refine j_iald (c := 38) (n := 0) (L := 30) 6 (prs_mem (by decide) (by decide)) (by decide) rfl rfl rfl dX7_addFounder_6 ?_
  refine j_iconst (v := 1) 7 dX7_addFounder_7 (by decide) ?_
  refine j_iload_n 8 2 dX7_addFounder_8 rfl rfl ?_
  refine j_ishl 9 dX7_addFounder_9 ?_
  refine j_ior 10 dX7_addFounder_10 ?_
  refine j_iast (c := 38) (n := 0) (L := 30) 11 (prs_mem (by decide) (by decide)) (by decide) rfl rfl rfl dX7_addFounder_11 (j_bs (fun S_1 => ?_))
  refine j_iconst (v := 0) 12 dX7_addFounder_12 (by decide) ?_
  refine j_istore_n (lv2 := [(3, .int 0), (0, .ref (ad 6 0)), (1, .int p1), (2, .int p2)]) 13 dX7_addFounder_13 rfl (by decide) rfl ?_
  refine j_iconst (v := 0) 14 dX7_addFounder_14 (by decide) ?_
  refine j_istore (lv2 := [(4, .int 0), (3, .int 0), (0, .ref (ad 6 0)), (1, .int p1), (2, .int p2)]) 15 dX7_addFounder_15 (by decide) rfl ?_
  refine j_sub [2, 4, 1, 0] rfl ?_
  exact tX7_addFounder_L17 X F p2 F _ 0 0 S_1
set_option maxRecDepth 100000 in
set_option maxHeartbeats 4000000 in
theorem kX7_addFounder {ad : Nat → Nat → Nat} (F : Nat) (S : St) (p1 : Int32) (p2 : Int32) : ∀ b, fX7_addFounder F S p1 p2 = some b → ∀ l dC dI cy, CT l dC dI cy ad yX7_addFounder wsX7_addFounder 3 66 [.ref (ad 6 0), .int p1, .int p2] S (some (.int b.1)) b.2 :=
  fun b hb l dC dI cy => ct_of (l := l) (dC := dC) (dI := dI) (cy := cy) outei (by decide) rfl (Nat.le_of_ble_eq_true rfl) rfl (fun X γ => tX7_addFounder X γ F S p1 p2) b hb
-- X7_ofBoth
theorem nX7_ofBoth_X7 : ∀ w ∈ u_ws RX7 TX7 12, w ∈ wsX7_ofBoth := by decide +kernel
theorem wX7_ofBoth_f43 : Cond.fieldLink RX7 43 "TwoTongues$People" "size" "I" ∈ wsX7_ofBoth := by decide +kernel
theorem wX7_ofBoth_f27 : Cond.fieldLink RX7 27 "TwoTongues$People" "kins" "[I" ∈ wsX7_ofBoth := by decide +kernel
theorem wX7_ofBoth_stX11_hasBit : Cond.static yX11_hasBit ∈ wsX7_ofBoth := by decide +kernel
theorem wX7_ofBoth_inX11_hasBit : Cond.initialized yX11_hasBit.cls ∈ wsX7_ofBoth := by decide +kernel
set_option maxRecDepth 100000 in
set_option maxHeartbeats 4000000 in
theorem tX7_ofBoth_L5 {ad : Nat → Nat → Nat} (X : Ctx) (F : Nat) (S : St) (x1 : Int32) (x2 : Int32)   : ∀ (n : Nat) (γ : Nat → Nat) (x3 : Int32) (x4 : Int32), JJ X ad γ (RQm X ad 1 21 (outpi S)) (fcm (outpi S)) 1 21 cX7_ofBoth 5 RX7 wsX7_ofBoth (some .int) (fX7_ofBoth_L5 F S x1 x2 n x3 x4) S 5 [(0, .ref (ad 6 0)), (1, .int x1), (2, .int x2), (3, .int x3), (4, .int x4)] [] := by
  intro n
  induction n with
  | zero => intro _ _ _; exact j_none
  | succ n ih =>
    intro γ x3 x4
    rw [show fX7_ofBoth_L5 F S x1 x2 (n + 1) x3 x4 = fX7_ofBoth_b5 F S x1 x2 (fX7_ofBoth_L5 F S x1 x2 n) x3 x4 from rfl]
    unfold fX7_ofBoth_b5
    refine j_iload 5 4 dX7_ofBoth_5 rfl ?_
    refine j_aload_n 7 0 dX7_ofBoth_7 rfl rfl ?_
    refine j_geti 8 6 nX7_ofBoth_X7 rfl (by decide) (prs_mem (by decide) (by decide)) (by decide) (by decide) wX7_ofBoth_f43 (Or.inl rfl) rfl dX7_ofBoth_8 ?_
    refine j_icmp_ge 11 51 dX7_ofBoth_11 (by decide) (fun _ => ?_) (fun _ => ?_)
    · refine j_iload_n 51 3 dX7_ofBoth_51 rfl rfl ?_
      exact j_iret 52 rfl dX7_ofBoth_52
    · refine j_aload_n 14 0 dX7_ofBoth_14 rfl rfl ?_
      refine j_getr (c2 := 39) (n2 := 0) 15 5 nX7_ofBoth_X7 rfl (by decide) (prs_mem (by decide) (by decide)) (by decide) (by decide) wX7_ofBoth_f27 (Or.inl rfl) rfl rfl rfl dX7_ofBoth_15 ?_
      refine j_iload 18 4 dX7_ofBoth_18 rfl ?_
      refine j_iald (c := 39) (n := 0) (L := 30) 20 (prs_mem (by decide) (by decide)) (by decide) rfl rfl rfl dX7_ofBoth_20 ?_
      refine j_iload_n 21 1 dX7_ofBoth_21 rfl rfl ?_
      refine j_callSN_pi 22  [.int (gA S 39 0 x4.toNatClampNeg), .int x1] [] (host := "TwoTongues") gX7_ofBoth_X11_hasBit_n60 rfl (by decide +kernel) wX7_ofBoth_stX11_hasBit wX7_ofBoth_inX11_hasBit eX11_hasBit ⟨Nat.le_of_ble_eq_true rfl, Nat.le_of_ble_eq_true rfl⟩ rfl rfl (Nat.le_of_ble_eq_true rfl) dX7_ofBoth_22 (kX11_hasBit S (gA S 39 0 x4.toNatClampNeg) x1) (fun b_1 γ => ?_)
      refine j_if_eq 25 45 dX7_ofBoth_25 (by decide) (fun _ => ?_) (fun _ => ?_)
      · refine j_iinc (v := x4 + 1) (lv2 := [(4, .int (x4 + 1)), (0, .ref (ad 6 0)), (1, .int x1), (2, .int x2), (3, .int x3)]) 45 4 dX7_ofBoth_45 rfl rfl (by decide) rfl ?_
        refine j_goto 48 5 dX7_ofBoth_48 (by decide) ?_
        refine j_sub [1, 2, 3, 4, 0] rfl ?_
        exact ih _ x3 (x4 + 1)
      · refine j_aload_n 28 0 dX7_ofBoth_28 rfl rfl ?_
        refine j_getr (c2 := 39) (n2 := 0) 29 5 nX7_ofBoth_X7 rfl (by decide) (prs_mem (by decide) (by decide)) (by decide) (by decide) wX7_ofBoth_f27 (Or.inl rfl) rfl rfl rfl dX7_ofBoth_29 ?_
        refine j_iload 32 4 dX7_ofBoth_32 rfl ?_
        refine j_iald (c := 39) (n := 0) (L := 30) 34 (prs_mem (by decide) (by decide)) (by decide) rfl rfl rfl dX7_ofBoth_34 ?_
        refine j_iload_n 35 2 dX7_ofBoth_35 rfl rfl ?_
        refine j_callSN_pi 36  [.int (gA S 39 0 x4.toNatClampNeg), .int x2] [] (host := "TwoTongues") gX7_ofBoth_X11_hasBit_n60 rfl (by decide +kernel) wX7_ofBoth_stX11_hasBit wX7_ofBoth_inX11_hasBit eX11_hasBit ⟨Nat.le_of_ble_eq_true rfl, Nat.le_of_ble_eq_true rfl⟩ rfl rfl (Nat.le_of_ble_eq_true rfl) dX7_ofBoth_36 (kX11_hasBit S (gA S 39 0 x4.toNatClampNeg) x2) (fun b_2 γ => ?_)
        refine j_if_eq 39 45 dX7_ofBoth_39 (by decide) (fun _ => ?_) (fun _ => ?_)
        · refine j_iinc (v := x4 + 1) (lv2 := [(4, .int (x4 + 1)), (0, .ref (ad 6 0)), (1, .int x1), (2, .int x2), (3, .int x3)]) 45 4 dX7_ofBoth_45 rfl rfl (by decide) rfl ?_
          refine j_goto 48 5 dX7_ofBoth_48 (by decide) ?_
          refine j_sub [1, 2, 3, 4, 0] rfl ?_
          exact ih _ x3 (x4 + 1)
        · refine j_iinc (v := x3 + 1) (lv2 := [(3, .int (x3 + 1)), (0, .ref (ad 6 0)), (1, .int x1), (2, .int x2), (4, .int x4)]) 42 3 dX7_ofBoth_42 rfl rfl (by decide) rfl ?_
          refine j_iinc (v := x4 + 1) (lv2 := [(4, .int (x4 + 1)), (3, .int (x3 + 1)), (0, .ref (ad 6 0)), (1, .int x1), (2, .int x2)]) 45 4 dX7_ofBoth_45 rfl rfl (by decide) rfl ?_
          refine j_goto 48 5 dX7_ofBoth_48 (by decide) ?_
          refine j_sub [2, 3, 4, 1, 0] rfl ?_
          exact ih _ (x3 + 1) (x4 + 1)
set_option maxRecDepth 100000 in
set_option maxHeartbeats 4000000 in
theorem tX7_ofBoth {ad : Nat → Nat → Nat} (X : Ctx) (γ : Nat → Nat) (F : Nat) (S : St) (p1 : Int32) (p2 : Int32) : JJ X ad γ (RQm X ad 1 21 (outpi S)) (fcm (outpi S)) 1 21 cX7_ofBoth 5 RX7 wsX7_ofBoth (some .int) (fX7_ofBoth F S p1 p2) S 0 [(0, .ref (ad 6 0)), (1, .int p1), (2, .int p2)] [] := by
  unfold fX7_ofBoth
  refine j_iconst (v := 0) 0 dX7_ofBoth_0 (by decide) ?_
  refine j_istore_n (lv2 := [(3, .int 0), (0, .ref (ad 6 0)), (1, .int p1), (2, .int p2)]) 1 dX7_ofBoth_1 rfl (by decide) rfl ?_
  refine j_iconst (v := 0) 2 dX7_ofBoth_2 (by decide) ?_
  refine j_istore (lv2 := [(4, .int 0), (3, .int 0), (0, .ref (ad 6 0)), (1, .int p1), (2, .int p2)]) 3 dX7_ofBoth_3 (by decide) rfl ?_
  refine j_sub [2, 3, 4, 1, 0] rfl ?_
  exact tX7_ofBoth_L5 X F S p1 p2 F _ 0 0
set_option maxRecDepth 100000 in
set_option maxHeartbeats 4000000 in
theorem kX7_ofBoth {ad : Nat → Nat → Nat} (F : Nat) (S : St) (p1 : Int32) (p2 : Int32) : ∀ b, fX7_ofBoth F S p1 p2 = some b → ∀ l dC dI cy, CT l dC dI cy ad yX7_ofBoth wsX7_ofBoth 1 21 [.ref (ad 6 0), .int p1, .int p2] S (some (.int b)) S :=
  fun b hb l dC dI cy => ct_of (l := l) (dC := dC) (dI := dI) (cy := cy) (outpi S) (by decide) rfl (Nat.le_of_ble_eq_true rfl) rfl (fun X γ => tX7_ofBoth X γ F S p1 p2) b hb
-- J6_bitCount_0f7a4
theorem wJ6_bitCount_0f7a4_c265 : Cond.constant RJ6 265 (1431655765) ∈ wsJ6_bitCount_0f7a4 := by decide +kernel
theorem wJ6_bitCount_0f7a4_c266 : Cond.constant RJ6 266 (858993459) ∈ wsJ6_bitCount_0f7a4 := by decide +kernel
theorem wJ6_bitCount_0f7a4_c267 : Cond.constant RJ6 267 (252645135) ∈ wsJ6_bitCount_0f7a4 := by decide +kernel
set_option maxRecDepth 100000 in
set_option maxHeartbeats 4000000 in
theorem tJ6_bitCount_0f7a4 {ad : Nat → Nat → Nat} (X : Ctx) (γ : Nat → Nat) (S : St) (p0 : Int32) : JJ X ad γ (RQm X ad 0 0 (outpi S)) (fcm (outpi S)) 0 0 cJ6_bitCount_0f7a4 1 RJ6 wsJ6_bitCount_0f7a4 (some .int) (fJ6_bitCount_0f7a4 S p0) S 0 [(0, .int p0)] [] := by
  unfold fJ6_bitCount_0f7a4
  refine j_iload_n 0 0 dJ6_bitCount_0f7a4_0 rfl rfl ?_
  refine j_iload_n 1 0 dJ6_bitCount_0f7a4_1 rfl rfl ?_
  refine j_iconst (v := 1) 2 dJ6_bitCount_0f7a4_2 (by decide) ?_
  refine j_iushr (v := (p0.toUInt32 >>> ((1 : Int32).toUInt32 &&& Int32.toUInt32 31)).toInt32) 3 dJ6_bitCount_0f7a4_3 rfl ?_
  refine j_ldcw (v := 1431655765) 4 dJ6_bitCount_0f7a4_4 wJ6_bitCount_0f7a4_c265 ?_
  refine j_iand 7 dJ6_bitCount_0f7a4_7 ?_
  refine j_isub 8 dJ6_bitCount_0f7a4_8 ?_
  refine j_bndi (fun x0_1 => ?_)
  refine j_istore_n (lv2 := [(0, .int x0_1)]) 9 dJ6_bitCount_0f7a4_9 rfl (by decide) rfl ?_
  refine j_iload_n 10 0 dJ6_bitCount_0f7a4_10 rfl rfl ?_
  refine j_ldcw (v := 858993459) 11 dJ6_bitCount_0f7a4_11 wJ6_bitCount_0f7a4_c266 ?_
  refine j_iand 14 dJ6_bitCount_0f7a4_14 ?_
  refine j_iload_n 15 0 dJ6_bitCount_0f7a4_15 rfl rfl ?_
  refine j_iconst (v := 2) 16 dJ6_bitCount_0f7a4_16 (by decide) ?_
  refine j_iushr (v := (x0_1.toUInt32 >>> ((2 : Int32).toUInt32 &&& Int32.toUInt32 31)).toInt32) 17 dJ6_bitCount_0f7a4_17 rfl ?_
  refine j_ldcw (v := 858993459) 18 dJ6_bitCount_0f7a4_18 wJ6_bitCount_0f7a4_c266 ?_
  refine j_iand 21 dJ6_bitCount_0f7a4_21 ?_
  refine j_iadd 22 dJ6_bitCount_0f7a4_22 ?_
  refine j_bndi (fun x0_2 => ?_)
  refine j_istore_n (lv2 := [(0, .int x0_2)]) 23 dJ6_bitCount_0f7a4_23 rfl (by decide) rfl ?_
  refine j_iload_n 24 0 dJ6_bitCount_0f7a4_24 rfl rfl ?_
  refine j_iload_n 25 0 dJ6_bitCount_0f7a4_25 rfl rfl ?_
  refine j_iconst (v := 4) 26 dJ6_bitCount_0f7a4_26 (by decide) ?_
  refine j_iushr (v := (x0_2.toUInt32 >>> ((4 : Int32).toUInt32 &&& Int32.toUInt32 31)).toInt32) 27 dJ6_bitCount_0f7a4_27 rfl ?_
  refine j_iadd 28 dJ6_bitCount_0f7a4_28 ?_
  refine j_ldcw (v := 252645135) 29 dJ6_bitCount_0f7a4_29 wJ6_bitCount_0f7a4_c267 ?_
  refine j_iand 32 dJ6_bitCount_0f7a4_32 ?_
  refine j_bndi (fun x0_3 => ?_)
  refine j_istore_n (lv2 := [(0, .int x0_3)]) 33 dJ6_bitCount_0f7a4_33 rfl (by decide) rfl ?_
  refine j_iload_n 34 0 dJ6_bitCount_0f7a4_34 rfl rfl ?_
  refine j_iload_n 35 0 dJ6_bitCount_0f7a4_35 rfl rfl ?_
  refine j_bipush (v := 8) 36 dJ6_bitCount_0f7a4_36 (by decide) ?_
  refine j_iushr (v := (x0_3.toUInt32 >>> ((8 : Int32).toUInt32 &&& Int32.toUInt32 31)).toInt32) 38 dJ6_bitCount_0f7a4_38 rfl ?_
  refine j_iadd 39 dJ6_bitCount_0f7a4_39 ?_
  refine j_bndi (fun x0_4 => ?_)
  refine j_istore_n (lv2 := [(0, .int x0_4)]) 40 dJ6_bitCount_0f7a4_40 rfl (by decide) rfl ?_
  refine j_iload_n 41 0 dJ6_bitCount_0f7a4_41 rfl rfl ?_
  refine j_iload_n 42 0 dJ6_bitCount_0f7a4_42 rfl rfl ?_
  refine j_bipush (v := 16) 43 dJ6_bitCount_0f7a4_43 (by decide) ?_
  refine j_iushr (v := (x0_4.toUInt32 >>> ((16 : Int32).toUInt32 &&& Int32.toUInt32 31)).toInt32) 45 dJ6_bitCount_0f7a4_45 rfl ?_
  refine j_iadd 46 dJ6_bitCount_0f7a4_46 ?_
  refine j_bndi (fun x0_5 => ?_)
  refine j_istore_n (lv2 := [(0, .int x0_5)]) 47 dJ6_bitCount_0f7a4_47 rfl (by decide) rfl ?_
  refine j_iload_n 48 0 dJ6_bitCount_0f7a4_48 rfl rfl ?_
  refine j_bipush (v := 63) 49 dJ6_bitCount_0f7a4_49 (by decide) ?_
  refine j_iand 51 dJ6_bitCount_0f7a4_51 ?_
  exact j_iret 52 rfl dJ6_bitCount_0f7a4_52
set_option maxRecDepth 100000 in
set_option maxHeartbeats 4000000 in
theorem kJ6_bitCount_0f7a4 {ad : Nat → Nat → Nat} (S : St) (p0 : Int32) : ∀ b, fJ6_bitCount_0f7a4 S p0 = some b → ∀ l dC dI cy, CT l dC dI cy ad yJ6_bitCount_0f7a4 wsJ6_bitCount_0f7a4 0 0 [.int p0] S (some (.int b)) S :=
  fun b hb l dC dI cy => ct_of (l := l) (dC := dC) (dI := dI) (cy := cy) (outpi S) (by decide) rfl (Nat.le_of_ble_eq_true rfl) rfl (fun X γ => tJ6_bitCount_0f7a4 X γ S p0) b hb
-- X7_cousinsCut
theorem nX7_cousinsCut_X7 : ∀ w ∈ u_ws RX7 TX7 12, w ∈ wsX7_cousinsCut := by decide +kernel
theorem wX7_cousinsCut_f43 : Cond.fieldLink RX7 43 "TwoTongues$People" "size" "I" ∈ wsX7_cousinsCut := by decide +kernel
theorem wX7_cousinsCut_f27 : Cond.fieldLink RX7 27 "TwoTongues$People" "kins" "[I" ∈ wsX7_cousinsCut := by decide +kernel
set_option maxRecDepth 100000 in
set_option maxHeartbeats 4000000 in
theorem tX7_cousinsCut_L4 {ad : Nat → Nat → Nat} (X : Ctx) (F : Nat) (S : St) (x1 : Int32)   : ∀ (n : Nat) (γ : Nat → Nat) (x2 : Int32) (x3 : Int32), JJ X ad γ (RQm X ad 1 20 (outpi S)) (fcm (outpi S)) 1 20 cX7_cousinsCut 4 RX7 wsX7_cousinsCut (some .int) (fX7_cousinsCut_L4 F S x1 n x2 x3) S 4 [(0, .ref (ad 6 0)), (1, .int x1), (2, .int x2), (3, .int x3)] [] := by
  intro n
  induction n with
  | zero => intro _ _ _; exact j_none
  | succ n ih =>
    intro γ x2 x3
    rw [show fX7_cousinsCut_L4 F S x1 (n + 1) x2 x3 = fX7_cousinsCut_b4 F S x1 (fX7_cousinsCut_L4 F S x1 n) x2 x3 from rfl]
    unfold fX7_cousinsCut_b4
    refine j_iload_n 4 3 dX7_cousinsCut_4 rfl rfl ?_
    refine j_aload_n 5 0 dX7_cousinsCut_5 rfl rfl ?_
    refine j_geti 6 6 nX7_cousinsCut_X7 rfl (by decide) (prs_mem (by decide) (by decide)) (by decide) (by decide) wX7_cousinsCut_f43 (Or.inl rfl) rfl dX7_cousinsCut_6 ?_
    refine j_icmp_ge 9 46 dX7_cousinsCut_9 (by decide) (fun _ => ?_) (fun _ => ?_)
    · refine j_iload_n 46 2 dX7_cousinsCut_46 rfl rfl ?_
      exact j_iret 47 rfl dX7_cousinsCut_47
    · refine j_iload_n 12 2 dX7_cousinsCut_12 rfl rfl ?_
      refine j_aload_n 13 0 dX7_cousinsCut_13 rfl rfl ?_
      refine j_getr (c2 := 39) (n2 := 0) 14 5 nX7_cousinsCut_X7 rfl (by decide) (prs_mem (by decide) (by decide)) (by decide) (by decide) wX7_cousinsCut_f27 (Or.inl rfl) rfl rfl rfl dX7_cousinsCut_14 ?_
      refine j_iload_n 17 3 dX7_cousinsCut_17 rfl rfl ?_
      refine j_iald (c := 39) (n := 0) (L := 30) 18 (prs_mem (by decide) (by decide)) (by decide) rfl rfl rfl dX7_cousinsCut_18 ?_
      refine j_iload_n 19 1 dX7_cousinsCut_19 rfl rfl ?_
      refine j_iand 20 dX7_cousinsCut_20 ?_
      refine j_callS_pi 21  [.int ((gA S 39 0 x3.toNatClampNeg) &&& x1)] [.int x2] gX7_cousinsCut_J6_bitCount_0f7a4 rfl eJ6_bitCount_0f7a4 ⟨Nat.le_of_ble_eq_true rfl, Nat.le_of_ble_eq_true rfl⟩ rfl rfl (Nat.le_of_ble_eq_true rfl) dX7_cousinsCut_21 (kJ6_bitCount_0f7a4 S ((gA S 39 0 x3.toNatClampNeg) &&& x1)) (fun b_1 γ => ?_)
      refine j_aload_n 24 0 dX7_cousinsCut_24 rfl rfl ?_
      refine j_getr (c2 := 39) (n2 := 0) 25 5 nX7_cousinsCut_X7 rfl (by decide) (prs_mem (by decide) (by decide)) (by decide) (by decide) wX7_cousinsCut_f27 (Or.inl rfl) rfl rfl rfl dX7_cousinsCut_25 ?_
      refine j_iload_n 28 3 dX7_cousinsCut_28 rfl rfl ?_
      refine j_iald (c := 39) (n := 0) (L := 30) 29 (prs_mem (by decide) (by decide)) (by decide) rfl rfl rfl dX7_cousinsCut_29 ?_
      refine j_iload_n 30 1 dX7_cousinsCut_30 rfl rfl ?_
      refine j_iconst (v := (-1)) 31 dX7_cousinsCut_31 (by decide) ?_
      refine j_ixor 32 dX7_cousinsCut_32 ?_
      refine j_iand 33 dX7_cousinsCut_33 ?_
      refine j_callS_pi 34  [.int ((gA S 39 0 x3.toNatClampNeg) &&& (x1 ^^^ (-1)))] [.int b_1, .int x2] gX7_cousinsCut_J6_bitCount_0f7a4 rfl eJ6_bitCount_0f7a4 ⟨Nat.le_of_ble_eq_true rfl, Nat.le_of_ble_eq_true rfl⟩ rfl rfl (Nat.le_of_ble_eq_true rfl) dX7_cousinsCut_34 (kJ6_bitCount_0f7a4 S ((gA S 39 0 x3.toNatClampNeg) &&& (x1 ^^^ (-1)))) (fun b_2 γ => ?_)
      refine j_imul 37 dX7_cousinsCut_37 ?_
      refine j_iadd 38 dX7_cousinsCut_38 ?_
      refine j_bndi (fun x2_3 => ?_)
      refine j_istore_n (lv2 := [(2, .int x2_3), (0, .ref (ad 6 0)), (1, .int x1), (3, .int x3)]) 39 dX7_cousinsCut_39 rfl (by decide) rfl ?_
      refine j_iinc (v := x3 + 1) (lv2 := [(3, .int (x3 + 1)), (2, .int x2_3), (0, .ref (ad 6 0)), (1, .int x1)]) 40 3 dX7_cousinsCut_40 rfl rfl (by decide) rfl ?_
      refine j_goto 43 4 dX7_cousinsCut_43 (by decide) ?_
      refine j_sub [2, 3, 1, 0] rfl ?_
      exact ih _ x2_3 (x3 + 1)
set_option maxRecDepth 100000 in
set_option maxHeartbeats 4000000 in
theorem tX7_cousinsCut {ad : Nat → Nat → Nat} (X : Ctx) (γ : Nat → Nat) (F : Nat) (S : St) (p1 : Int32) : JJ X ad γ (RQm X ad 1 20 (outpi S)) (fcm (outpi S)) 1 20 cX7_cousinsCut 4 RX7 wsX7_cousinsCut (some .int) (fX7_cousinsCut F S p1) S 0 [(0, .ref (ad 6 0)), (1, .int p1)] [] := by
  unfold fX7_cousinsCut
  refine j_iconst (v := 0) 0 dX7_cousinsCut_0 (by decide) ?_
  refine j_istore_n (lv2 := [(2, .int 0), (0, .ref (ad 6 0)), (1, .int p1)]) 1 dX7_cousinsCut_1 rfl (by decide) rfl ?_
  refine j_iconst (v := 0) 2 dX7_cousinsCut_2 (by decide) ?_
  refine j_istore_n (lv2 := [(3, .int 0), (2, .int 0), (0, .ref (ad 6 0)), (1, .int p1)]) 3 dX7_cousinsCut_3 rfl (by decide) rfl ?_
  refine j_sub [2, 3, 1, 0] rfl ?_
  exact tX7_cousinsCut_L4 X F S p1 F _ 0 0
set_option maxRecDepth 100000 in
set_option maxHeartbeats 4000000 in
theorem kX7_cousinsCut {ad : Nat → Nat → Nat} (F : Nat) (S : St) (p1 : Int32) : ∀ b, fX7_cousinsCut F S p1 = some b → ∀ l dC dI cy, CT l dC dI cy ad yX7_cousinsCut wsX7_cousinsCut 1 20 [.ref (ad 6 0), .int p1] S (some (.int b)) S :=
  fun b hb l dC dI cy => ct_of (l := l) (dC := dC) (dI := dI) (cy := cy) (outpi S) (by decide) rfl (Nat.le_of_ble_eq_true rfl) rfl (fun X γ => tX7_cousinsCut X γ F S p1) b hb
-- X7_addSaying
theorem nX7_addSaying_X7 : ∀ w ∈ u_ws RX7 TX7 12, w ∈ wsX7_addSaying := by decide +kernel
theorem wX7_addSaying_f81 : Cond.fieldLink RX7 81 "TwoTongues$People" "sayings" "I" ∈ wsX7_addSaying := by decide +kernel
theorem wX7_addSaying_f30 : Cond.fieldLink RX7 30 "TwoTongues$People" "sayer" "[I" ∈ wsX7_addSaying := by decide +kernel
theorem wX7_addSaying_f33 : Cond.fieldLink RX7 33 "TwoTongues$People" "saidOf" "[I" ∈ wsX7_addSaying := by decide +kernel
theorem wX7_addSaying_f36 : Cond.fieldLink RX7 36 "TwoTongues$People" "saidKin" "[I" ∈ wsX7_addSaying := by decide +kernel
theorem wX7_addSaying_f39 : Cond.fieldLink RX7 39 "TwoTongues$People" "saidSo" "[Z" ∈ wsX7_addSaying := by decide +kernel
set_option maxRecDepth 100000 in
set_option maxHeartbeats 4000000 in
theorem tX7_addSaying {ad : Nat → Nat → Nat} (X : Ctx) (γ : Nat → Nat) (S : St) (p1 : Int32) (p2 : Int32) (p3 : Int32) (p4 : Int32) : JJ X ad γ (RQm X ad 0 0 outei) (fcm outei) 0 0 cX7_addSaying 5 RX7 wsX7_addSaying (some .int) (fX7_addSaying S p1 p2 p3 p4) S 0 [(0, .ref (ad 6 0)), (1, .int p1), (2, .int p2), (3, .int p3), (4, .int p4)] [] := by
  unfold fX7_addSaying
  refine j_aload_n 0 0 dX7_addSaying_0 rfl rfl ?_
  refine j_geti 1 11 nX7_addSaying_X7 rfl (by decide) (prs_mem (by decide) (by decide)) (by decide) (by decide) wX7_addSaying_f81 (Or.inl rfl) rfl dX7_addSaying_1 ?_
  refine j_bipush (v := 20) 4 dX7_addSaying_4 (by decide) ?_
  refine j_icmp_lt 6 12 dX7_addSaying_6 (by decide) (fun _ => ?_) (fun _ => ?_)
  · refine j_aload_n 12 0 dX7_addSaying_12 rfl rfl ?_
    refine j_getr (c2 := 40) (n2 := 0) 13 7 nX7_addSaying_X7 rfl (by decide) (prs_mem (by decide) (by decide)) (by decide) (by decide) wX7_addSaying_f30 (Or.inl rfl) rfl rfl rfl dX7_addSaying_13 ?_
    refine j_aload_n 16 0 dX7_addSaying_16 rfl rfl ?_
    refine j_geti 17 11 nX7_addSaying_X7 rfl (by decide) (prs_mem (by decide) (by decide)) (by decide) (by decide) wX7_addSaying_f81 (Or.inl rfl) rfl dX7_addSaying_17 ?_
    refine j_iload_n 20 1 dX7_addSaying_20 rfl rfl ?_
    refine j_iast (c := 40) (n := 0) (L := 20) 21 (prs_mem (by decide) (by decide)) (by decide) rfl rfl rfl dX7_addSaying_21 (j_bs (fun S_1 => ?_))
    refine j_aload_n 22 0 dX7_addSaying_22 rfl rfl ?_
    refine j_getr (c2 := 41) (n2 := 0) 23 8 nX7_addSaying_X7 rfl (by decide) (prs_mem (by decide) (by decide)) (by decide) (by decide) wX7_addSaying_f33 (Or.inl rfl) rfl rfl rfl dX7_addSaying_23 ?_
    refine j_aload_n 26 0 dX7_addSaying_26 rfl rfl ?_
    refine j_geti 27 11 nX7_addSaying_X7 rfl (by decide) (prs_mem (by decide) (by decide)) (by decide) (by decide) wX7_addSaying_f81 (Or.inl rfl) rfl dX7_addSaying_27 ?_
    refine j_iload_n 30 2 dX7_addSaying_30 rfl rfl ?_
    refine j_iast (c := 41) (n := 0) (L := 20) 31 (prs_mem (by decide) (by decide)) (by decide) rfl rfl rfl dX7_addSaying_31 (j_bs (fun S_2 => ?_))
    refine j_aload_n 32 0 dX7_addSaying_32 rfl rfl ?_
    refine j_getr (c2 := 42) (n2 := 0) 33 9 nX7_addSaying_X7 rfl (by decide) (prs_mem (by decide) (by decide)) (by decide) (by decide) wX7_addSaying_f36 (Or.inl rfl) rfl rfl rfl dX7_addSaying_33 ?_
    refine j_aload_n 36 0 dX7_addSaying_36 rfl rfl ?_
    refine j_geti 37 11 nX7_addSaying_X7 rfl (by decide) (prs_mem (by decide) (by decide)) (by decide) (by decide) wX7_addSaying_f81 (Or.inl rfl) rfl dX7_addSaying_37 ?_
    refine j_iload_n 40 3 dX7_addSaying_40 rfl rfl ?_
    refine j_iast (c := 42) (n := 0) (L := 20) 41 (prs_mem (by decide) (by decide)) (by decide) rfl rfl rfl dX7_addSaying_41 (j_bs (fun S_3 => ?_))
    refine j_aload_n 42 0 dX7_addSaying_42 rfl rfl ?_
    refine j_getr (c2 := 43) (n2 := 0) 43 10 nX7_addSaying_X7 rfl (by decide) (prs_mem (by decide) (by decide)) (by decide) (by decide) wX7_addSaying_f39 (Or.inl rfl) rfl rfl rfl dX7_addSaying_43 ?_
    refine j_aload_n 46 0 dX7_addSaying_46 rfl rfl ?_
    refine j_geti 47 11 nX7_addSaying_X7 rfl (by decide) (prs_mem (by decide) (by decide)) (by decide) (by decide) wX7_addSaying_f81 (Or.inl rfl) rfl dX7_addSaying_47 ?_
    refine j_iload 50 4 dX7_addSaying_50 rfl ?_
    refine j_zast (c := 43) (n := 0) (L := 20) 52 (prs_mem (by decide) (by decide)) (by decide) rfl rfl rfl dX7_addSaying_52 (j_bs (fun S_4 => ?_))
    refine j_aload_n 53 0 dX7_addSaying_53 rfl rfl ?_
    refine j_dup 54 dX7_addSaying_54 rfl ?_
    refine j_geti 55 11 nX7_addSaying_X7 rfl (by decide) (prs_mem (by decide) (by decide)) (by decide) (by decide) wX7_addSaying_f81 (Or.inl rfl) rfl dX7_addSaying_55 ?_
    refine j_iconst (v := 1) 58 dX7_addSaying_58 (by decide) ?_
    refine j_iadd 59 dX7_addSaying_59 ?_
    refine j_puti 60 11 nX7_addSaying_X7 rfl (by decide) (prs_mem (by decide) (by decide)) (by decide) (by decide) wX7_addSaying_f81 (Or.inl rfl) tyX7 tyX7_ok nmX7 rfl (by decide) rfl dX7_addSaying_60 (j_bs (fun S_5 => ?_))
    refine j_aload_n 63 0 dX7_addSaying_63 rfl rfl ?_
    refine j_geti 64 11 nX7_addSaying_X7 rfl (by decide) (prs_mem (by decide) (by decide)) (by decide) (by decide) wX7_addSaying_f81 (Or.inl rfl) rfl dX7_addSaying_64 ?_
    exact j_iret 67 rfl dX7_addSaying_67
  · refine j_bipush (v := (-3)) 9 dX7_addSaying_9 (by decide) ?_
    exact j_iret 11 rfl dX7_addSaying_11
set_option maxRecDepth 100000 in
set_option maxHeartbeats 4000000 in
theorem kX7_addSaying {ad : Nat → Nat → Nat} (S : St) (p1 : Int32) (p2 : Int32) (p3 : Int32) (p4 : Int32) : ∀ b, fX7_addSaying S p1 p2 p3 p4 = some b → ∀ l dC dI cy, CT l dC dI cy ad yX7_addSaying wsX7_addSaying 0 0 [.ref (ad 6 0), .int p1, .int p2, .int p3, .int p4] S (some (.int b.1)) b.2 :=
  fun b hb l dC dI cy => ct_of (l := l) (dC := dC) (dI := dI) (cy := cy) outei (by decide) rfl (Nat.le_of_ble_eq_true rfl) rfl (fun X γ => tX7_addSaying X γ S p1 p2 p3 p4) b hb
-- X7_isSaying
theorem nX7_isSaying_X7 : ∀ w ∈ u_ws RX7 TX7 12, w ∈ wsX7_isSaying := by decide +kernel
theorem wX7_isSaying_f33 : Cond.fieldLink RX7 33 "TwoTongues$People" "saidOf" "[I" ∈ wsX7_isSaying := by decide +kernel
theorem wX7_isSaying_f36 : Cond.fieldLink RX7 36 "TwoTongues$People" "saidKin" "[I" ∈ wsX7_isSaying := by decide +kernel
set_option maxRecDepth 100000 in
set_option maxHeartbeats 4000000 in
theorem tX7_isSaying {ad : Nat → Nat → Nat} (X : Ctx) (γ : Nat → Nat) (S : St) (p1 : Int32) (p2 : Int32) (p3 : Int32) : JJ X ad γ (RQm X ad 0 0 (outpi S)) (fcm (outpi S)) 0 0 cX7_isSaying 4 RX7 wsX7_isSaying (some .boolean) (fX7_isSaying S p1 p2 p3) S 0 [(0, .ref (ad 6 0)), (1, .int p1), (2, .int p2), (3, .int p3)] [] := by
  unfold fX7_isSaying
  refine j_aload_n 0 0 dX7_isSaying_0 rfl rfl ?_
  refine j_getr (c2 := 41) (n2 := 0) 1 8 nX7_isSaying_X7 rfl (by decide) (prs_mem (by decide) (by decide)) (by decide) (by decide) wX7_isSaying_f33 (Or.inl rfl) rfl rfl rfl dX7_isSaying_1 ?_
  refine j_iload_n 4 1 dX7_isSaying_4 rfl rfl ?_
  refine j_iald (c := 41) (n := 0) (L := 20) 5 (prs_mem (by decide) (by decide)) (by decide) rfl rfl rfl dX7_isSaying_5 ?_
  refine j_iload_n 6 2 dX7_isSaying_6 rfl rfl ?_
  refine j_icmp_ne 7 24 dX7_isSaying_7 (by decide) (fun _ => ?_) (fun _ => ?_)
  · refine j_iconst (v := 0) 24 dX7_isSaying_24 (by decide) ?_
    exact j_zret 25 (by decide) rfl dX7_isSaying_25
  · refine j_aload_n 10 0 dX7_isSaying_10 rfl rfl ?_
    refine j_getr (c2 := 42) (n2 := 0) 11 9 nX7_isSaying_X7 rfl (by decide) (prs_mem (by decide) (by decide)) (by decide) (by decide) wX7_isSaying_f36 (Or.inl rfl) rfl rfl rfl dX7_isSaying_11 ?_
    refine j_iload_n 14 1 dX7_isSaying_14 rfl rfl ?_
    refine j_iald (c := 42) (n := 0) (L := 20) 15 (prs_mem (by decide) (by decide)) (by decide) rfl rfl rfl dX7_isSaying_15 ?_
    refine j_iload_n 16 3 dX7_isSaying_16 rfl rfl ?_
    refine j_icmp_ne 17 24 dX7_isSaying_17 (by decide) (fun _ => ?_) (fun _ => ?_)
    · refine j_iconst (v := 0) 24 dX7_isSaying_24 (by decide) ?_
      exact j_zret 25 (by decide) rfl dX7_isSaying_25
    · refine j_iconst (v := 1) 20 dX7_isSaying_20 (by decide) ?_
      refine j_goto 21 25 dX7_isSaying_21 (by decide) ?_
      exact j_zret 25 (by decide) rfl dX7_isSaying_25
set_option maxRecDepth 100000 in
set_option maxHeartbeats 4000000 in
theorem kX7_isSaying {ad : Nat → Nat → Nat} (S : St) (p1 : Int32) (p2 : Int32) (p3 : Int32) : ∀ b, fX7_isSaying S p1 p2 p3 = some b → ∀ l dC dI cy, CT l dC dI cy ad yX7_isSaying wsX7_isSaying 0 0 [.ref (ad 6 0), .int p1, .int p2, .int p3] S (some (.int b)) S :=
  fun b hb l dC dI cy => ct_of (l := l) (dC := dC) (dI := dI) (cy := cy) (outpi S) (by decide) rfl (Nat.le_of_ble_eq_true rfl) rfl (fun X γ => tX7_isSaying X γ S p1 p2 p3) b hb
-- X7_isSaidToBe
theorem nX7_isSaidToBe_X7 : ∀ w ∈ u_ws RX7 TX7 12, w ∈ wsX7_isSaidToBe := by decide +kernel
theorem wX7_isSaidToBe_f81 : Cond.fieldLink RX7 81 "TwoTongues$People" "sayings" "I" ∈ wsX7_isSaidToBe := by decide +kernel
theorem wX7_isSaidToBe_f39 : Cond.fieldLink RX7 39 "TwoTongues$People" "saidSo" "[Z" ∈ wsX7_isSaidToBe := by decide +kernel
set_option maxRecDepth 100000 in
set_option maxHeartbeats 4000000 in
theorem tX7_isSaidToBe_L7 {ad : Nat → Nat → Nat} (X : Ctx) (F : Nat) (S : St) (x1 : Int32) (x2 : Int32) (k21 : Int32 → Option Int32)  (hk21 : ∀ (γ : Nat → Nat) (x3 : Int32), JJ X ad γ (RQm X ad 1 23 (outpi S)) (fcm (outpi S)) 1 23 cX7_isSaidToBe 4 RX7 wsX7_isSaidToBe (some .boolean) (k21 x3) S 21 [(0, .ref (ad 6 0)), (3, .int x3)] []) : ∀ (n : Nat) (γ : Nat → Nat) (x3 : Int32), JJ X ad γ (RQm X ad 1 23 (outpi S)) (fcm (outpi S)) 1 23 cX7_isSaidToBe 4 RX7 wsX7_isSaidToBe (some .boolean) (fX7_isSaidToBe_L7 F S x1 x2 k21 n x3) S 7 [(0, .ref (ad 6 0)), (1, .int x1), (2, .int x2), (3, .int x3)] [] := by
  intro n
  induction n with
  | zero => intro _ _; exact j_none
  | succ n ih =>
    intro γ x3
    rw [show fX7_isSaidToBe_L7 F S x1 x2 k21 (n + 1) x3 = fX7_isSaidToBe_b7 F S x1 x2 k21 (fX7_isSaidToBe_L7 F S x1 x2 k21 n) x3 from rfl]
    unfold fX7_isSaidToBe_b7
    refine j_iload_n 7 3 dX7_isSaidToBe_7 rfl rfl ?_
    refine j_if_lt 8 34 dX7_isSaidToBe_8 (by decide) (fun _ => ?_) (fun _ => ?_)
    · refine j_iconst (v := 0) 34 dX7_isSaidToBe_34 (by decide) ?_
      exact j_zret 35 (by decide) rfl dX7_isSaidToBe_35
    · refine j_aload_n 11 0 dX7_isSaidToBe_11 rfl rfl ?_
      refine j_iload_n 12 3 dX7_isSaidToBe_12 rfl rfl ?_
      refine j_iload_n 13 1 dX7_isSaidToBe_13 rfl rfl ?_
      refine j_iload_n 14 2 dX7_isSaidToBe_14 rfl rfl ?_
      refine j_callV_pi 15 rfl (by decide) (prs_mem (by decide) (by decide))  [.int x3, .int x1, .int x2] [] gX7_isSaidToBe_X7_isSaying rfl eX7_isSaying ⟨Nat.le_of_ble_eq_true rfl, Nat.le_of_ble_eq_true rfl⟩ rfl rfl (Nat.le_of_ble_eq_true rfl) dX7_isSaidToBe_15 (kX7_isSaying S x3 x1 x2) (fun b_2 γ => ?_)
      refine j_if_eq 18 28 dX7_isSaidToBe_18 (by decide) (fun _ => ?_) (fun _ => ?_)
      · refine j_iinc (v := x3 + (-1)) (lv2 := [(3, .int (x3 + (-1))), (0, .ref (ad 6 0)), (1, .int x1), (2, .int x2)]) 28 3 dX7_isSaidToBe_28 rfl rfl (by decide) rfl ?_
        refine j_goto 31 7 dX7_isSaidToBe_31 (by decide) ?_
        refine j_sub [1, 2, 3, 0] rfl ?_
        exact ih _ (x3 + (-1))
      · refine j_sub [0, 3] rfl ?_
        exact hk21 _ x3
set_option maxRecDepth 100000 in
set_option maxHeartbeats 4000000 in
theorem tX7_isSaidToBe {ad : Nat → Nat → Nat} (X : Ctx) (γ : Nat → Nat) (F : Nat) (S : St) (p1 : Int32) (p2 : Int32) : JJ X ad γ (RQm X ad 1 23 (outpi S)) (fcm (outpi S)) 1 23 cX7_isSaidToBe 4 RX7 wsX7_isSaidToBe (some .boolean) (fX7_isSaidToBe F S p1 p2) S 0 [(0, .ref (ad 6 0)), (1, .int p1), (2, .int p2)] [] := by
  unfold fX7_isSaidToBe
  refine j_aload_n 0 0 dX7_isSaidToBe_0 rfl rfl ?_
  refine j_geti 1 11 nX7_isSaidToBe_X7 rfl (by decide) (prs_mem (by decide) (by decide)) (by decide) (by decide) wX7_isSaidToBe_f81 (Or.inl rfl) rfl dX7_isSaidToBe_1 ?_
  refine j_iconst (v := 1) 4 dX7_isSaidToBe_4 (by decide) ?_
  refine j_isub 5 dX7_isSaidToBe_5 ?_
  refine j_bndi (fun x3_1 => ?_)
  refine j_istore_n (lv2 := [(3, .int x3_1), (0, .ref (ad 6 0)), (1, .int p1), (2, .int p2)]) 6 dX7_isSaidToBe_6 rfl (by decide) rfl ?_
  refine j_sub [1, 2, 3, 0] rfl ?_
  refine tX7_isSaidToBe_L7 X F S p1 p2 _ (fun γ x3_3 => ?_) F _ x3_1
  refine j_aload_n 21 0 dX7_isSaidToBe_21 rfl rfl ?_
  refine j_getr (c2 := 43) (n2 := 0) 22 10 nX7_isSaidToBe_X7 rfl (by decide) (prs_mem (by decide) (by decide)) (by decide) (by decide) wX7_isSaidToBe_f39 (Or.inl rfl) rfl rfl rfl dX7_isSaidToBe_22 ?_
  refine j_iload_n 25 1 dX7_isSaidToBe_25 rfl rfl ?_
  refine j_zald (c := 43) (n := 0) (L := 20) 26 (prs_mem (by decide) (by decide)) (by decide) rfl rfl rfl dX7_isSaidToBe_26 ?_
  refine j_gd (fun hz => ?_)
  exact j_zret 27 (isB_nar hz) rfl dX7_isSaidToBe_27
set_option maxRecDepth 100000 in
set_option maxHeartbeats 4000000 in
theorem kX7_isSaidToBe {ad : Nat → Nat → Nat} (F : Nat) (S : St) (p1 : Int32) (p2 : Int32) : ∀ b, fX7_isSaidToBe F S p1 p2 = some b → ∀ l dC dI cy, CT l dC dI cy ad yX7_isSaidToBe wsX7_isSaidToBe 1 23 [.ref (ad 6 0), .int p1, .int p2] S (some (.int b)) S :=
  fun b hb l dC dI cy => ct_of (l := l) (dC := dC) (dI := dI) (cy := cy) (outpi S) (by decide) rfl (Nat.le_of_ble_eq_true rfl) rfl (fun X γ => tX7_isSaidToBe X γ F S p1 p2) b hb
-- X7_pairsAtOdds
theorem nX7_pairsAtOdds_X7 : ∀ w ∈ u_ws RX7 TX7 12, w ∈ wsX7_pairsAtOdds := by decide +kernel
theorem wX7_pairsAtOdds_f81 : Cond.fieldLink RX7 81 "TwoTongues$People" "sayings" "I" ∈ wsX7_pairsAtOdds := by decide +kernel
theorem wX7_pairsAtOdds_f30 : Cond.fieldLink RX7 30 "TwoTongues$People" "sayer" "[I" ∈ wsX7_pairsAtOdds := by decide +kernel
theorem wX7_pairsAtOdds_stX11_hasBit : Cond.static yX11_hasBit ∈ wsX7_pairsAtOdds := by decide +kernel
theorem wX7_pairsAtOdds_inX11_hasBit : Cond.initialized yX11_hasBit.cls ∈ wsX7_pairsAtOdds := by decide +kernel
theorem wX7_pairsAtOdds_f39 : Cond.fieldLink RX7 39 "TwoTongues$People" "saidSo" "[Z" ∈ wsX7_pairsAtOdds := by decide +kernel
set_option maxRecDepth 100000 in
set_option maxHeartbeats 4000000 in
theorem tX7_pairsAtOdds_j75 {ad : Nat → Nat → Nat} (X : Ctx) (γ : Nat → Nat) (F : Nat) (S : St) (x1 : Int32) (x2 : Int32) (x3 : Int32) (x5 : Int32) (x6 : Int32) (s0 : Int32) (s1 : Int32) (rec : Int32 → Int32 → Int32 → Int32 → Option Int32)  (ih : ∀ (γ : Nat → Nat) (x3 : Int32) (x4 : Int32) (x5 : Int32) (x6 : Int32), JJ X ad γ (RQm X ad 1 23 (outpi S)) (fcm (outpi S)) 1 23 cX7_pairsAtOdds 7 RX7 wsX7_pairsAtOdds (some .int) (rec x3 x4 x5 x6) S 16 [(0, .ref (ad 6 0)), (1, .int x1), (2, .int x2), (3, .int x3), (4, .int x4), (5, .int x5), (6, .int x6)] []) : JJ X ad γ (RQm X ad 1 23 (outpi S)) (fcm (outpi S)) 1 23 cX7_pairsAtOdds 7 RX7 wsX7_pairsAtOdds (some .int) (fX7_pairsAtOdds_j75 F S x1 x2 x3 x5 x6 s0 s1 rec) S 75 [(0, .ref (ad 6 0)), (1, .int x1), (2, .int x2), (3, .int x3), (5, .int x5), (6, .int x6)] [.int s0, .int s1] := by
  unfold fX7_pairsAtOdds_j75
  refine j_iadd 75 dX7_pairsAtOdds_75 ?_
  refine j_bndi (fun x4_5 => ?_)
  refine j_istore (lv2 := [(4, .int x4_5), (0, .ref (ad 6 0)), (1, .int x1), (2, .int x2), (3, .int x3), (5, .int x5), (6, .int x6)]) 76 dX7_pairsAtOdds_76 (by decide) rfl ?_
  refine j_iload 78 5 dX7_pairsAtOdds_78 rfl ?_
  refine j_aload_n 80 1 dX7_pairsAtOdds_80 rfl rfl ?_
  refine j_getr (c2 := 43) (n2 := 0) 81 10 nX7_pairsAtOdds_X7 rfl (by decide) (prs_mem (by decide) (by decide)) (by decide) (by decide) wX7_pairsAtOdds_f39 (Or.inl rfl) rfl rfl rfl dX7_pairsAtOdds_81 ?_
  refine j_iload 84 6 dX7_pairsAtOdds_84 rfl ?_
  refine j_zald (c := 43) (n := 0) (L := 20) 86 (prs_mem (by decide) (by decide)) (by decide) rfl rfl rfl dX7_pairsAtOdds_86 ?_
  refine j_if_eq 87 94 dX7_pairsAtOdds_87 (by decide) (fun _ => ?_) (fun _ => ?_)
  · refine j_iconst (v := 1) 94 dX7_pairsAtOdds_94 (by decide) ?_
    refine j_iadd 95 dX7_pairsAtOdds_95 ?_
    refine j_bndi (fun x5_6 => ?_)
    refine j_istore (lv2 := [(5, .int x5_6), (4, .int x4_5), (0, .ref (ad 6 0)), (1, .int x1), (2, .int x2), (3, .int x3), (6, .int x6)]) 96 dX7_pairsAtOdds_96 (by decide) rfl ?_
    refine j_iinc (v := x6 + (-1)) (lv2 := [(6, .int (x6 + (-1))), (5, .int x5_6), (4, .int x4_5), (0, .ref (ad 6 0)), (1, .int x1), (2, .int x2), (3, .int x3)]) 98 6 dX7_pairsAtOdds_98 rfl rfl (by decide) rfl ?_
    refine j_goto 101 16 dX7_pairsAtOdds_101 (by decide) ?_
    refine j_sub [3, 4, 5, 6, 2, 1, 0] rfl ?_
    exact ih _ x3 x4_5 x5_6 (x6 + (-1))
  · refine j_iconst (v := 0) 90 dX7_pairsAtOdds_90 (by decide) ?_
    refine j_goto 91 95 dX7_pairsAtOdds_91 (by decide) ?_
    refine j_iadd 95 dX7_pairsAtOdds_95 ?_
    refine j_bndi (fun x5_7 => ?_)
    refine j_istore (lv2 := [(5, .int x5_7), (4, .int x4_5), (0, .ref (ad 6 0)), (1, .int x1), (2, .int x2), (3, .int x3), (6, .int x6)]) 96 dX7_pairsAtOdds_96 (by decide) rfl ?_
    refine j_iinc (v := x6 + (-1)) (lv2 := [(6, .int (x6 + (-1))), (5, .int x5_7), (4, .int x4_5), (0, .ref (ad 6 0)), (1, .int x1), (2, .int x2), (3, .int x3)]) 98 6 dX7_pairsAtOdds_98 rfl rfl (by decide) rfl ?_
    refine j_goto 101 16 dX7_pairsAtOdds_101 (by decide) ?_
    refine j_sub [3, 4, 5, 6, 2, 1, 0] rfl ?_
    exact ih _ x3 x4_5 x5_7 (x6 + (-1))
set_option maxRecDepth 100000 in
set_option maxHeartbeats 4000000 in
theorem tX7_pairsAtOdds_L16 {ad : Nat → Nat → Nat} (X : Ctx) (F : Nat) (S : St) (x1 : Int32) (x2 : Int32) (k104 : Int32 → Int32 → Option Int32)  (hk104 : ∀ (γ : Nat → Nat) (x4 : Int32) (x5 : Int32), JJ X ad γ (RQm X ad 1 23 (outpi S)) (fcm (outpi S)) 1 23 cX7_pairsAtOdds 7 RX7 wsX7_pairsAtOdds (some .int) (k104 x4 x5) S 104 [(4, .int x4), (5, .int x5)] []) : ∀ (n : Nat) (γ : Nat → Nat) (x3 : Int32) (x4 : Int32) (x5 : Int32) (x6 : Int32), JJ X ad γ (RQm X ad 1 23 (outpi S)) (fcm (outpi S)) 1 23 cX7_pairsAtOdds 7 RX7 wsX7_pairsAtOdds (some .int) (fX7_pairsAtOdds_L16 F S x1 x2 k104 n x3 x4 x5 x6) S 16 [(0, .ref (ad 6 0)), (1, .int x1), (2, .int x2), (3, .int x3), (4, .int x4), (5, .int x5), (6, .int x6)] [] := by
  intro n
  induction n with
  | zero => intro _ _ _ _ _; exact j_none
  | succ n ih =>
    intro γ x3 x4 x5 x6
    rw [show fX7_pairsAtOdds_L16 F S x1 x2 k104 (n + 1) x3 x4 x5 x6 = fX7_pairsAtOdds_b16 F S x1 x2 k104 (fX7_pairsAtOdds_L16 F S x1 x2 k104 n) x3 x4 x5 x6 from rfl]
    unfold fX7_pairsAtOdds_b16
    refine j_iload 16 6 dX7_pairsAtOdds_16 rfl ?_
    refine j_if_lt 18 104 dX7_pairsAtOdds_18 (by decide) (fun _ => ?_) (fun _ => ?_)
    · refine j_sub [4, 5] rfl ?_
      exact hk104 _ x4 x5
    · refine j_aload_n 21 0 dX7_pairsAtOdds_21 rfl rfl ?_
      refine j_iload 22 6 dX7_pairsAtOdds_22 rfl ?_
      refine j_iload_n 24 1 dX7_pairsAtOdds_24 rfl rfl ?_
      refine j_iload_n 25 2 dX7_pairsAtOdds_25 rfl rfl ?_
      refine j_callV_pi 26 rfl (by decide) (prs_mem (by decide) (by decide))  [.int x6, .int x1, .int x2] [] gX7_pairsAtOdds_X7_isSaying rfl eX7_isSaying ⟨Nat.le_of_ble_eq_true rfl, Nat.le_of_ble_eq_true rfl⟩ rfl rfl (Nat.le_of_ble_eq_true rfl) dX7_pairsAtOdds_26 (kX7_isSaying S x6 x1 x2) (fun b_2 γ => ?_)
      refine j_if_eq 29 98 dX7_pairsAtOdds_29 (by decide) (fun _ => ?_) (fun _ => ?_)
      · refine j_iinc (v := x6 + (-1)) (lv2 := [(6, .int (x6 + (-1))), (0, .ref (ad 6 0)), (1, .int x1), (2, .int x2), (3, .int x3), (4, .int x4), (5, .int x5)]) 98 6 dX7_pairsAtOdds_98 rfl rfl (by decide) rfl ?_
        refine j_goto 101 16 dX7_pairsAtOdds_101 (by decide) ?_
        refine j_sub [1, 2, 3, 4, 5, 6, 0] rfl ?_
        exact ih _ x3 x4 x5 (x6 + (-1))
      · refine j_iload_n 32 3 dX7_pairsAtOdds_32 rfl rfl ?_
        refine j_aload_n 33 0 dX7_pairsAtOdds_33 rfl rfl ?_
        refine j_getr (c2 := 40) (n2 := 0) 34 7 nX7_pairsAtOdds_X7 rfl (by decide) (prs_mem (by decide) (by decide)) (by decide) (by decide) wX7_pairsAtOdds_f30 (Or.inl rfl) rfl rfl rfl dX7_pairsAtOdds_34 ?_
        refine j_iload 37 6 dX7_pairsAtOdds_37 rfl ?_
        refine j_iald (c := 40) (n := 0) (L := 20) 39 (prs_mem (by decide) (by decide)) (by decide) rfl rfl rfl dX7_pairsAtOdds_39 ?_
        refine j_callSN_pi 40  [.int x3, .int (gA S 40 0 x6.toNatClampNeg)] [] (host := "TwoTongues") gX7_pairsAtOdds_X11_hasBit_n60 rfl (by decide +kernel) wX7_pairsAtOdds_stX11_hasBit wX7_pairsAtOdds_inX11_hasBit eX11_hasBit ⟨Nat.le_of_ble_eq_true rfl, Nat.le_of_ble_eq_true rfl⟩ rfl rfl (Nat.le_of_ble_eq_true rfl) dX7_pairsAtOdds_40 (kX11_hasBit S x3 (gA S 40 0 x6.toNatClampNeg)) (fun b_3 γ => ?_)
        refine j_if_ne 43 98 dX7_pairsAtOdds_43 (by decide) (fun _ => ?_) (fun _ => ?_)
        · refine j_iinc (v := x6 + (-1)) (lv2 := [(6, .int (x6 + (-1))), (0, .ref (ad 6 0)), (1, .int x1), (2, .int x2), (3, .int x3), (4, .int x4), (5, .int x5)]) 98 6 dX7_pairsAtOdds_98 rfl rfl (by decide) rfl ?_
          refine j_goto 101 16 dX7_pairsAtOdds_101 (by decide) ?_
          refine j_sub [1, 2, 3, 4, 5, 6, 0] rfl ?_
          exact ih _ x3 x4 x5 (x6 + (-1))
        · refine j_iload_n 46 3 dX7_pairsAtOdds_46 rfl rfl ?_
          refine j_iconst (v := 1) 47 dX7_pairsAtOdds_47 (by decide) ?_
          refine j_aload_n 48 0 dX7_pairsAtOdds_48 rfl rfl ?_
          refine j_getr (c2 := 40) (n2 := 0) 49 7 nX7_pairsAtOdds_X7 rfl (by decide) (prs_mem (by decide) (by decide)) (by decide) (by decide) wX7_pairsAtOdds_f30 (Or.inl rfl) rfl rfl rfl dX7_pairsAtOdds_49 ?_
          refine j_iload 52 6 dX7_pairsAtOdds_52 rfl ?_
          refine j_iald (c := 40) (n := 0) (L := 20) 54 (prs_mem (by decide) (by decide)) (by decide) rfl rfl rfl dX7_pairsAtOdds_54 ?_
          refine j_ishl 55 dX7_pairsAtOdds_55 ?_
          refine j_ior 56 dX7_pairsAtOdds_56 ?_
          refine j_bndi (fun x3_4 => ?_)
          refine j_istore_n (lv2 := [(3, .int x3_4), (0, .ref (ad 6 0)), (1, .int x1), (2, .int x2), (4, .int x4), (5, .int x5), (6, .int x6)]) 57 dX7_pairsAtOdds_57 rfl (by decide) rfl ?_
          refine j_iload 58 4 dX7_pairsAtOdds_58 rfl ?_
          refine j_aload_n 60 1 dX7_pairsAtOdds_60 rfl rfl ?_
          refine j_getr (c2 := 43) (n2 := 0) 61 10 nX7_pairsAtOdds_X7 rfl (by decide) (prs_mem (by decide) (by decide)) (by decide) (by decide) wX7_pairsAtOdds_f39 (Or.inl rfl) rfl rfl rfl dX7_pairsAtOdds_61 ?_
          refine j_iload 64 6 dX7_pairsAtOdds_64 rfl ?_
          refine j_zald (c := 43) (n := 0) (L := 20) 66 (prs_mem (by decide) (by decide)) (by decide) rfl rfl rfl dX7_pairsAtOdds_66 ?_
          refine j_if_eq 67 74 dX7_pairsAtOdds_67 (by decide) (fun _ => ?_) (fun _ => ?_)
          · refine j_iconst (v := 0) 74 dX7_pairsAtOdds_74 (by decide) ?_
            refine j_sub [1, 2, 3, 0, 5, 6] rfl ?_
            exact tX7_pairsAtOdds_j75 X _ F S x1 x2 x3_4 x5 x6 0 x4 _ ih
          · refine j_iconst (v := 1) 70 dX7_pairsAtOdds_70 (by decide) ?_
            refine j_goto 71 75 dX7_pairsAtOdds_71 (by decide) ?_
            refine j_sub [1, 2, 3, 0, 5, 6] rfl ?_
            exact tX7_pairsAtOdds_j75 X _ F S x1 x2 x3_4 x5 x6 1 x4 _ ih
set_option maxRecDepth 100000 in
set_option maxHeartbeats 4000000 in
theorem tX7_pairsAtOdds {ad : Nat → Nat → Nat} (X : Ctx) (γ : Nat → Nat) (F : Nat) (S : St) (p1 : Int32) (p2 : Int32) : JJ X ad γ (RQm X ad 1 23 (outpi S)) (fcm (outpi S)) 1 23 cX7_pairsAtOdds 7 RX7 wsX7_pairsAtOdds (some .int) (fX7_pairsAtOdds F S p1 p2) S 0 [(0, .ref (ad 6 0)), (1, .int p1), (2, .int p2)] [] := by
  unfold fX7_pairsAtOdds
  refine j_iconst (v := 0) 0 dX7_pairsAtOdds_0 (by decide) ?_
  refine j_istore_n (lv2 := [(3, .int 0), (0, .ref (ad 6 0)), (1, .int p1), (2, .int p2)]) 1 dX7_pairsAtOdds_1 rfl (by decide) rfl ?_
  refine j_iconst (v := 0) 2 dX7_pairsAtOdds_2 (by decide) ?_
  refine j_istore (lv2 := [(4, .int 0), (3, .int 0), (0, .ref (ad 6 0)), (1, .int p1), (2, .int p2)]) 3 dX7_pairsAtOdds_3 (by decide) rfl ?_
  refine j_iconst (v := 0) 5 dX7_pairsAtOdds_5 (by decide) ?_
  refine j_istore (lv2 := [(5, .int 0), (4, .int 0), (3, .int 0), (0, .ref (ad 6 0)), (1, .int p1), (2, .int p2)]) 6 dX7_pairsAtOdds_6 (by decide) rfl ?_
  refine j_aload_n 8 3 dX7_pairsAtOdds_8 rfl rfl ?_
  refine j_geti 9 11 nX7_pairsAtOdds_X7 rfl (by decide) (prs_mem (by decide) (by decide)) (by decide) (by decide) wX7_pairsAtOdds_f81 (Or.inl rfl) rfl dX7_pairsAtOdds_9 ?_
  refine j_iconst (v := 1) 12 dX7_pairsAtOdds_12 (by decide) ?_
  refine j_isub 13 dX7_pairsAtOdds_13 ?_
  refine j_bndi (fun x6_1 => ?_)
  refine j_istore (lv2 := [(6, .int x6_1), (5, .int 0), (4, .int 0), (3, .int 0), (0, .ref (ad 6 0)), (1, .int p1), (2, .int p2)]) 14 dX7_pairsAtOdds_14 (by decide) rfl ?_
  refine j_sub [4, 5, 6, 3, 2, 1, 0] rfl ?_
  refine tX7_pairsAtOdds_L16 X F S p1 p2 _ (fun γ x4_8 x5_9 => ?_) F _ 0 0 0 x6_1
  refine j_iload 104 0 dX7_pairsAtOdds_104 rfl ?_
  refine j_iload 106 1 dX7_pairsAtOdds_106 rfl ?_
  refine j_imul 108 dX7_pairsAtOdds_108 ?_
  exact j_iret 109 rfl dX7_pairsAtOdds_109
set_option maxRecDepth 100000 in
set_option maxHeartbeats 4000000 in
theorem kX7_pairsAtOdds {ad : Nat → Nat → Nat} (F : Nat) (S : St) (p1 : Int32) (p2 : Int32) : ∀ b, fX7_pairsAtOdds F S p1 p2 = some b → ∀ l dC dI cy, CT l dC dI cy ad yX7_pairsAtOdds wsX7_pairsAtOdds 1 23 [.ref (ad 6 0), .int p1, .int p2] S (some (.int b)) S :=
  fun b hb l dC dI cy => ct_of (l := l) (dC := dC) (dI := dI) (cy := cy) (outpi S) (by decide) rfl (Nat.le_of_ble_eq_true rfl) rfl (fun X γ => tX7_pairsAtOdds X γ F S p1 p2) b hb
-- X8_add
theorem nX8_add_X8 : ∀ w ∈ u_ws RX8 TX8 3, w ∈ wsX8_add := by decide +kernel
theorem wX8_add_f18 : Cond.fieldLink RX8 18 "TwoTongues$Settlements" "size" "I" ∈ wsX8_add := by decide +kernel
theorem wX8_add_f9 : Cond.fieldLink RX8 9 "TwoTongues$Settlements" "sum" "[I" ∈ wsX8_add := by decide +kernel
theorem wX8_add_f15 : Cond.fieldLink RX8 15 "TwoTongues$Settlements" "ratio" "[I" ∈ wsX8_add := by decide +kernel
set_option maxRecDepth 100000 in
set_option maxHeartbeats 4000000 in
theorem tX8_add {ad : Nat → Nat → Nat} (X : Ctx) (γ : Nat → Nat) (S : St) (p1 : Int32) (p2 : Int32) : JJ X ad γ (RQm X ad 0 0 outei) (fcm outei) 0 0 cX8_add 3 RX8 wsX8_add (some .int) (fX8_add S p1 p2) S 0 [(0, .ref (ad 7 0)), (1, .int p1), (2, .int p2)] [] := by
  unfold fX8_add
  refine j_aload_n 0 0 dX8_add_0 rfl rfl ?_
  refine j_geti 1 2 nX8_add_X8 rfl (by decide) (prs_mem (by decide) (by decide)) (by decide) (by decide) wX8_add_f18 (Or.inl rfl) rfl dX8_add_1 ?_
  refine j_bipush (v := 8) 4 dX8_add_4 (by decide) ?_
  refine j_icmp_lt 6 12 dX8_add_6 (by decide) (fun _ => ?_) (fun _ => ?_)
  · refine j_aload_n 12 0 dX8_add_12 rfl rfl ?_
    refine j_getr (c2 := 44) (n2 := 0) 13 0 nX8_add_X8 rfl (by decide) (prs_mem (by decide) (by decide)) (by decide) (by decide) wX8_add_f9 (Or.inl rfl) rfl rfl rfl dX8_add_13 ?_
    refine j_aload_n 16 0 dX8_add_16 rfl rfl ?_
    refine j_geti 17 2 nX8_add_X8 rfl (by decide) (prs_mem (by decide) (by decide)) (by decide) (by decide) wX8_add_f18 (Or.inl rfl) rfl dX8_add_17 ?_
    refine j_iload_n 20 1 dX8_add_20 rfl rfl ?_
    refine j_iast (c := 44) (n := 0) (L := 8) 21 (prs_mem (by decide) (by decide)) (by decide) rfl rfl rfl dX8_add_21 (j_bs (fun S_1 => ?_))
    refine j_aload_n 22 0 dX8_add_22 rfl rfl ?_
    refine j_getr (c2 := 45) (n2 := 0) 23 1 nX8_add_X8 rfl (by decide) (prs_mem (by decide) (by decide)) (by decide) (by decide) wX8_add_f15 (Or.inl rfl) rfl rfl rfl dX8_add_23 ?_
    refine j_aload_n 26 0 dX8_add_26 rfl rfl ?_
    refine j_geti 27 2 nX8_add_X8 rfl (by decide) (prs_mem (by decide) (by decide)) (by decide) (by decide) wX8_add_f18 (Or.inl rfl) rfl dX8_add_27 ?_
    refine j_iload_n 30 2 dX8_add_30 rfl rfl ?_
    refine j_iast (c := 45) (n := 0) (L := 8) 31 (prs_mem (by decide) (by decide)) (by decide) rfl rfl rfl dX8_add_31 (j_bs (fun S_2 => ?_))
    refine j_aload_n 32 0 dX8_add_32 rfl rfl ?_
    refine j_dup 33 dX8_add_33 rfl ?_
    refine j_geti 34 2 nX8_add_X8 rfl (by decide) (prs_mem (by decide) (by decide)) (by decide) (by decide) wX8_add_f18 (Or.inl rfl) rfl dX8_add_34 ?_
    refine j_iconst (v := 1) 37 dX8_add_37 (by decide) ?_
    refine j_iadd 38 dX8_add_38 ?_
    refine j_puti 39 2 nX8_add_X8 rfl (by decide) (prs_mem (by decide) (by decide)) (by decide) (by decide) wX8_add_f18 (Or.inl rfl) tyX8 tyX8_ok nmX8 rfl (by decide) rfl dX8_add_39 (j_bs (fun S_3 => ?_))
    refine j_aload_n 42 0 dX8_add_42 rfl rfl ?_
    refine j_geti 43 2 nX8_add_X8 rfl (by decide) (prs_mem (by decide) (by decide)) (by decide) (by decide) wX8_add_f18 (Or.inl rfl) rfl dX8_add_43 ?_
    refine j_iconst (v := 1) 46 dX8_add_46 (by decide) ?_
    refine j_isub 47 dX8_add_47 ?_
    exact j_iret 48 rfl dX8_add_48
  · refine j_bipush (v := (-3)) 9 dX8_add_9 (by decide) ?_
    exact j_iret 11 rfl dX8_add_11
set_option maxRecDepth 100000 in
set_option maxHeartbeats 4000000 in
theorem kX8_add {ad : Nat → Nat → Nat} (S : St) (p1 : Int32) (p2 : Int32) : ∀ b, fX8_add S p1 p2 = some b → ∀ l dC dI cy, CT l dC dI cy ad yX8_add wsX8_add 0 0 [.ref (ad 7 0), .int p1, .int p2] S (some (.int b.1)) b.2 :=
  fun b hb l dC dI cy => ct_of (l := l) (dC := dC) (dI := dI) (cy := cy) outei (by decide) rfl (Nat.le_of_ble_eq_true rfl) rfl (fun X γ => tX8_add X γ S p1 p2) b hb
-- X8_toppingOf
theorem nX8_toppingOf_X8 : ∀ w ∈ u_ws RX8 TX8 3, w ∈ wsX8_toppingOf := by decide +kernel
theorem wX8_toppingOf_f18 : Cond.fieldLink RX8 18 "TwoTongues$Settlements" "size" "I" ∈ wsX8_toppingOf := by decide +kernel
theorem wX8_toppingOf_f9 : Cond.fieldLink RX8 9 "TwoTongues$Settlements" "sum" "[I" ∈ wsX8_toppingOf := by decide +kernel
theorem wX8_toppingOf_f15 : Cond.fieldLink RX8 15 "TwoTongues$Settlements" "ratio" "[I" ∈ wsX8_toppingOf := by decide +kernel
set_option maxRecDepth 100000 in
set_option maxHeartbeats 4000000 in
theorem tX8_toppingOf_L6 {ad : Nat → Nat → Nat} (X : Ctx) (F : Nat) (S : St) (x1 : Int32)   : ∀ (n : Nat) (γ : Nat → Nat) (x2 : Int32) (x3 : Int32), JJ X ad γ (RQm X ad 0 0 (outpi S)) (fcm (outpi S)) 0 0 cX8_toppingOf 4 RX8 wsX8_toppingOf (some .int) (fX8_toppingOf_L6 F S x1 n x2 x3) S 6 [(0, .ref (ad 7 0)), (1, .int x1), (2, .int x2), (3, .int x3)] [] := by
  intro n
  induction n with
  | zero => intro _ _ _; exact j_none
  | succ n ih =>
    intro γ x2 x3
    rw [show fX8_toppingOf_L6 F S x1 (n + 1) x2 x3 = fX8_toppingOf_b6 F S x1 (fX8_toppingOf_L6 F S x1 n) x2 x3 from rfl]
    unfold fX8_toppingOf_b6
    refine j_iload_n 6 3 dX8_toppingOf_6 rfl rfl ?_
    refine j_aload_n 7 0 dX8_toppingOf_7 rfl rfl ?_
    refine j_geti 8 2 nX8_toppingOf_X8 rfl (by decide) (prs_mem (by decide) (by decide)) (by decide) (by decide) wX8_toppingOf_f18 (Or.inl rfl) rfl dX8_toppingOf_8 ?_
    refine j_icmp_ge 11 39 dX8_toppingOf_11 (by decide) (fun _ => ?_) (fun _ => ?_)
    · refine j_iload_n 39 2 dX8_toppingOf_39 rfl rfl ?_
      exact j_iret 40 rfl dX8_toppingOf_40
    · refine j_iload_n 14 2 dX8_toppingOf_14 rfl rfl ?_
      refine j_aload_n 15 0 dX8_toppingOf_15 rfl rfl ?_
      refine j_getr (c2 := 44) (n2 := 0) 16 0 nX8_toppingOf_X8 rfl (by decide) (prs_mem (by decide) (by decide)) (by decide) (by decide) wX8_toppingOf_f9 (Or.inl rfl) rfl rfl rfl dX8_toppingOf_16 ?_
      refine j_iload_n 19 3 dX8_toppingOf_19 rfl rfl ?_
      refine j_iald (c := 44) (n := 0) (L := 8) 20 (prs_mem (by decide) (by decide)) (by decide) rfl rfl rfl dX8_toppingOf_20 ?_
      refine j_aload_n 21 0 dX8_toppingOf_21 rfl rfl ?_
      refine j_getr (c2 := 45) (n2 := 0) 22 1 nX8_toppingOf_X8 rfl (by decide) (prs_mem (by decide) (by decide)) (by decide) (by decide) wX8_toppingOf_f15 (Or.inl rfl) rfl rfl rfl dX8_toppingOf_22 ?_
      refine j_iload_n 25 1 dX8_toppingOf_25 rfl rfl ?_
      refine j_iald (c := 45) (n := 0) (L := 8) 26 (prs_mem (by decide) (by decide)) (by decide) rfl rfl rfl dX8_toppingOf_26 ?_
      refine j_imul 27 dX8_toppingOf_27 ?_
      refine j_bipush (v := 100) 28 dX8_toppingOf_28 (by decide) ?_
      refine j_idiv 30 dX8_toppingOf_30 ?_
      refine j_iadd 31 dX8_toppingOf_31 ?_
      refine j_bndi (fun x2_2 => ?_)
      refine j_istore_n (lv2 := [(2, .int x2_2), (0, .ref (ad 7 0)), (1, .int x1), (3, .int x3)]) 32 dX8_toppingOf_32 rfl (by decide) rfl ?_
      refine j_iinc (v := x3 + 1) (lv2 := [(3, .int (x3 + 1)), (2, .int x2_2), (0, .ref (ad 7 0)), (1, .int x1)]) 33 3 dX8_toppingOf_33 rfl rfl (by decide) rfl ?_
      refine j_goto 36 6 dX8_toppingOf_36 (by decide) ?_
      refine j_sub [2, 3, 1, 0] rfl ?_
      exact ih _ x2_2 (x3 + 1)
set_option maxRecDepth 100000 in
set_option maxHeartbeats 4000000 in
theorem tX8_toppingOf {ad : Nat → Nat → Nat} (X : Ctx) (γ : Nat → Nat) (F : Nat) (S : St) (p1 : Int32) : JJ X ad γ (RQm X ad 0 0 (outpi S)) (fcm (outpi S)) 0 0 cX8_toppingOf 4 RX8 wsX8_toppingOf (some .int) (fX8_toppingOf F S p1) S 0 [(0, .ref (ad 7 0)), (1, .int p1)] [] := by
  unfold fX8_toppingOf
  refine j_iconst (v := 0) 0 dX8_toppingOf_0 (by decide) ?_
  refine j_istore_n (lv2 := [(2, .int 0), (0, .ref (ad 7 0)), (1, .int p1)]) 1 dX8_toppingOf_1 rfl (by decide) rfl ?_
  refine j_iload_n 2 2 dX8_toppingOf_2 rfl rfl ?_
  refine j_iconst (v := 1) 3 dX8_toppingOf_3 (by decide) ?_
  refine j_iadd 4 dX8_toppingOf_4 ?_
  refine j_bndi (fun x3_1 => ?_)
  refine j_istore_n (lv2 := [(3, .int x3_1), (2, .int 0), (0, .ref (ad 7 0)), (1, .int p1)]) 5 dX8_toppingOf_5 rfl (by decide) rfl ?_
  refine j_sub [2, 3, 1, 0] rfl ?_
  exact tX8_toppingOf_L6 X F S p1 F _ 0 x3_1
set_option maxRecDepth 100000 in
set_option maxHeartbeats 4000000 in
theorem kX8_toppingOf {ad : Nat → Nat → Nat} (F : Nat) (S : St) (p1 : Int32) : ∀ b, fX8_toppingOf F S p1 = some b → ∀ l dC dI cy, CT l dC dI cy ad yX8_toppingOf wsX8_toppingOf 0 0 [.ref (ad 7 0), .int p1] S (some (.int b)) S :=
  fun b hb l dC dI cy => ct_of (l := l) (dC := dC) (dI := dI) (cy := cy) (outpi S) (by decide) rfl (Nat.le_of_ble_eq_true rfl) rfl (fun X γ => tX8_toppingOf X γ F S p1) b hb
-- X8_costOfAll
theorem nX8_costOfAll_X8 : ∀ w ∈ u_ws RX8 TX8 3, w ∈ wsX8_costOfAll := by decide +kernel
theorem wX8_costOfAll_f18 : Cond.fieldLink RX8 18 "TwoTongues$Settlements" "size" "I" ∈ wsX8_costOfAll := by decide +kernel
theorem wX8_costOfAll_f9 : Cond.fieldLink RX8 9 "TwoTongues$Settlements" "sum" "[I" ∈ wsX8_costOfAll := by decide +kernel
set_option maxRecDepth 100000 in
set_option maxHeartbeats 4000000 in
theorem tX8_costOfAll_L4 {ad : Nat → Nat → Nat} (X : Ctx) (F : Nat) (S : St)   : ∀ (n : Nat) (γ : Nat → Nat) (x1 : Int32) (x2 : Int32), JJ X ad γ (RQm X ad 1 23 (outpi S)) (fcm (outpi S)) 1 23 cX8_costOfAll 3 RX8 wsX8_costOfAll (some .int) (fX8_costOfAll_L4 F S n x1 x2) S 4 [(0, .ref (ad 7 0)), (1, .int x1), (2, .int x2)] [] := by
  intro n
  induction n with
  | zero => intro _ _ _; exact j_none
  | succ n ih =>
    intro γ x1 x2
    rw [show fX8_costOfAll_L4 F S (n + 1) x1 x2 = fX8_costOfAll_b4 F S (fX8_costOfAll_L4 F S n) x1 x2 from rfl]
    unfold fX8_costOfAll_b4
    refine j_iload_n 4 2 dX8_costOfAll_4 rfl rfl ?_
    refine j_aload_n 5 0 dX8_costOfAll_5 rfl rfl ?_
    refine j_geti 6 2 nX8_costOfAll_X8 rfl (by decide) (prs_mem (by decide) (by decide)) (by decide) (by decide) wX8_costOfAll_f18 (Or.inl rfl) rfl dX8_costOfAll_6 ?_
    refine j_icmp_ge 9 33 dX8_costOfAll_9 (by decide) (fun _ => ?_) (fun _ => ?_)
    · refine j_iload_n 33 1 dX8_costOfAll_33 rfl rfl ?_
      exact j_iret 34 rfl dX8_costOfAll_34
    · refine j_iload_n 12 1 dX8_costOfAll_12 rfl rfl ?_
      refine j_aload_n 13 0 dX8_costOfAll_13 rfl rfl ?_
      refine j_getr (c2 := 44) (n2 := 0) 14 0 nX8_costOfAll_X8 rfl (by decide) (prs_mem (by decide) (by decide)) (by decide) (by decide) wX8_costOfAll_f9 (Or.inl rfl) rfl rfl rfl dX8_costOfAll_14 ?_
      refine j_iload_n 17 2 dX8_costOfAll_17 rfl rfl ?_
      refine j_iald (c := 44) (n := 0) (L := 8) 18 (prs_mem (by decide) (by decide)) (by decide) rfl rfl rfl dX8_costOfAll_18 ?_
      refine j_aload_n 19 0 dX8_costOfAll_19 rfl rfl ?_
      refine j_iload_n 20 2 dX8_costOfAll_20 rfl rfl ?_
      refine j_callV_pi 21 rfl (by decide) (prs_mem (by decide) (by decide))  [.int x2] [.int (gA S 44 0 x2.toNatClampNeg), .int x1] gX8_costOfAll_X8_toppingOf rfl eX8_toppingOf ⟨Nat.le_of_ble_eq_true rfl, Nat.le_of_ble_eq_true rfl⟩ rfl rfl (Nat.le_of_ble_eq_true rfl) dX8_costOfAll_21 (kX8_toppingOf F S x2) (fun b_1 γ => ?_)
      refine j_iadd 24 dX8_costOfAll_24 ?_
      refine j_iadd 25 dX8_costOfAll_25 ?_
      refine j_bndi (fun x1_2 => ?_)
      refine j_istore_n (lv2 := [(1, .int x1_2), (0, .ref (ad 7 0)), (2, .int x2)]) 26 dX8_costOfAll_26 rfl (by decide) rfl ?_
      refine j_iinc (v := x2 + 1) (lv2 := [(2, .int (x2 + 1)), (1, .int x1_2), (0, .ref (ad 7 0))]) 27 2 dX8_costOfAll_27 rfl rfl (by decide) rfl ?_
      refine j_goto 30 4 dX8_costOfAll_30 (by decide) ?_
      refine j_sub [2, 1, 0] rfl ?_
      exact ih _ x1_2 (x2 + 1)
set_option maxRecDepth 100000 in
set_option maxHeartbeats 4000000 in
theorem tX8_costOfAll {ad : Nat → Nat → Nat} (X : Ctx) (γ : Nat → Nat) (F : Nat) (S : St) : JJ X ad γ (RQm X ad 1 23 (outpi S)) (fcm (outpi S)) 1 23 cX8_costOfAll 3 RX8 wsX8_costOfAll (some .int) (fX8_costOfAll F S) S 0 [(0, .ref (ad 7 0))] [] := by
  unfold fX8_costOfAll
  refine j_iconst (v := 0) 0 dX8_costOfAll_0 (by decide) ?_
  refine j_istore_n (lv2 := [(1, .int 0), (0, .ref (ad 7 0))]) 1 dX8_costOfAll_1 rfl (by decide) rfl ?_
  refine j_iconst (v := 0) 2 dX8_costOfAll_2 (by decide) ?_
  refine j_istore_n (lv2 := [(2, .int 0), (1, .int 0), (0, .ref (ad 7 0))]) 3 dX8_costOfAll_3 rfl (by decide) rfl ?_
  refine j_sub [2, 1, 0] rfl ?_
  exact tX8_costOfAll_L4 X F S F _ 0 0
set_option maxRecDepth 100000 in
set_option maxHeartbeats 4000000 in
theorem kX8_costOfAll {ad : Nat → Nat → Nat} (F : Nat) (S : St) : ∀ b, fX8_costOfAll F S = some b → ∀ l dC dI cy, CT l dC dI cy ad yX8_costOfAll wsX8_costOfAll 1 23 [.ref (ad 7 0)] S (some (.int b)) S :=
  fun b hb l dC dI cy => ct_of (l := l) (dC := dC) (dI := dI) (cy := cy) (outpi S) (by decide) rfl (Nat.le_of_ble_eq_true rfl) rfl (fun X γ => tX8_costOfAll X γ F S) b hb
-- X9_append
theorem nX9_append_X9 : ∀ w ∈ u_ws RX9 TX9 4, w ∈ wsX9_append := by decide +kernel
theorem wX9_append_f26 : Cond.fieldLink RX9 26 "TwoTongues$Text" "length" "I" ∈ wsX9_append := by decide +kernel
theorem wX9_append_f9 : Cond.fieldLink RX9 9 "TwoTongues$Text" "bytes" "[B" ∈ wsX9_append := by decide +kernel
set_option maxRecDepth 100000 in
set_option maxHeartbeats 4000000 in
theorem tX9_append_L20 {ad : Nat → Nat → Nat} (X : Ctx) (F : Nat) (t : Nat) (y2 : Int64) (ht : t < 2)  : ∀ (n : Nat) (γ : Nat → Nat) (x4 : Int32) (S : St), JJ X ad γ (RQm X ad 0 0 outei) (fcm outei) 0 0 cX9_append 5 RX9 wsX9_append (some .int) (fX9_append_L20 F t y2 n x4 S) S 20 [(0, .ref (ad 8 t)), (2, .long y2), (4, .int x4)] [] := by
  intro n
  induction n with
  | zero => intro _ _ _; exact j_none
  | succ n ih =>
    intro γ x4 S
    rw [show fX9_append_L20 F t y2 (n + 1) x4 S = fX9_append_b20 F t y2 (fX9_append_L20 F t y2 n) x4 S from rfl]
    unfold fX9_append_b20
    refine j_iload 20 2 dX9_append_20 rfl ?_
    refine j_if_lt 22 59 dX9_append_22 (by decide) (fun _ => ?_) (fun _ => ?_)
    · refine j_aload_n 59 0 dX9_append_59 rfl rfl ?_
      refine j_geti 60 1 nX9_append_X9 rfl (by decide) (prs_mem (by decide) ht) (by decide) (by decide) wX9_append_f26 (Or.inl rfl) rfl dX9_append_60 ?_
      exact j_iret 63 rfl dX9_append_63
    · refine j_aload_n 25 0 dX9_append_25 rfl rfl ?_
      refine j_getr (c2 := 46) (n2 := t) 26 0 nX9_append_X9 rfl (by decide) (prs_mem (by decide) ht) (by decide) (by decide) wX9_append_f9 (Or.inl rfl) rfl rfl (n01 _) dX9_append_26 ?_
      refine j_aload_n 29 0 dX9_append_29 rfl rfl ?_
      refine j_geti 30 1 nX9_append_X9 rfl (by decide) (prs_mem (by decide) ht) (by decide) (by decide) wX9_append_f26 (Or.inl rfl) rfl dX9_append_30 ?_
      refine j_lload_n 33 1 dX9_append_33 rfl rfl ?_
      refine j_bipush (v := 8) 34 dX9_append_34 (by decide) ?_
      refine j_iload 36 2 dX9_append_36 rfl ?_
      refine j_imul 38 dX9_append_38 ?_
      refine j_lshr 39 dX9_append_39 ?_
      refine j_l2i 40 dX9_append_40 ?_
      refine j_i2b 41 dX9_append_41 ?_
      refine j_bast (c := 46) (n := t) (L := 240) 42 (prs_mem (by decide) ht) (by decide) rfl rfl rfl dX9_append_42 (j_bs (fun S_2 => ?_))
      refine j_aload_n 43 0 dX9_append_43 rfl rfl ?_
      refine j_dup 44 dX9_append_44 rfl ?_
      refine j_geti 45 1 nX9_append_X9 rfl (by decide) (prs_mem (by decide) ht) (by decide) (by decide) wX9_append_f26 (Or.inl rfl) rfl dX9_append_45 ?_
      refine j_iconst (v := 1) 48 dX9_append_48 (by decide) ?_
      refine j_iadd 49 dX9_append_49 ?_
      refine j_puti 50 1 nX9_append_X9 rfl (by decide) (prs_mem (by decide) ht) (by decide) (by decide) wX9_append_f26 (Or.inl rfl) tyX9 tyX9_ok nmX9 rfl (by decide) rfl dX9_append_50 (j_bs (fun S_3 => ?_))
      refine j_iinc (v := x4 + (-1)) (lv2 := [(4, .int (x4 + (-1))), (0, .ref (ad 8 t)), (2, .long y2)]) 53 2 dX9_append_53 rfl rfl (by decide) rfl ?_
      refine j_goto 56 20 dX9_append_56 (by decide) ?_
      refine j_sub [1, 2, 0] rfl ?_
      exact ih _ (x4 + (-1)) S_3
set_option maxRecDepth 100000 in
set_option maxHeartbeats 4000000 in
theorem tX9_append {ad : Nat → Nat → Nat} (X : Ctx) (γ : Nat → Nat) (F : Nat) (S : St) (t : Nat) (p1 : Int32) (p2 : Int64) : JJ X ad γ (RQm X ad 0 0 outei) (fcm outei) 0 0 cX9_append 5 RX9 wsX9_append (some .int) (fX9_append F S t p1 p2) S 0 [(0, .ref (ad 8 t)), (1, .int p1), (2, .long p2)] [] := by
  unfold fX9_append
  refine j_gd (fun ht => ?_)
  have ht := of_decide_eq_true ht
  refine j_aload_n 0 0 dX9_append_0 rfl rfl ?_
  refine j_geti 1 1 nX9_append_X9 rfl (by decide) (prs_mem (by decide) ht) (by decide) (by decide) wX9_append_f26 (Or.inl rfl) rfl dX9_append_1 ?_
  refine j_iload_n 4 1 dX9_append_4 rfl rfl ?_
  refine j_iadd 5 dX9_append_5 ?_
  refine j_sipush (v := 240) 6 dX9_append_6 (by decide) ?_
  refine j_icmp_le 9 15 dX9_append_9 (by decide) (fun _ => ?_) (fun _ => ?_)
  · refine j_iload_n 15 1 dX9_append_15 rfl rfl ?_
    refine j_iconst (v := 1) 16 dX9_append_16 (by decide) ?_
    refine j_isub 17 dX9_append_17 ?_
    refine j_bndi (fun x4_1 => ?_)
    refine j_istore (lv2 := [(4, .int x4_1), (0, .ref (ad 8 t)), (1, .int p1), (2, .long p2)]) 18 dX9_append_18 (by decide) rfl ?_
    refine j_sub [1, 3, 0] rfl ?_
    exact tX9_append_L20 X F t p2 ht F _ x4_1 S
  · refine j_bipush (v := (-3)) 12 dX9_append_12 (by decide) ?_
    exact j_iret 14 rfl dX9_append_14
set_option maxRecDepth 100000 in
set_option maxHeartbeats 4000000 in
theorem kX9_append {ad : Nat → Nat → Nat} (F : Nat) (S : St) (t : Nat) (p1 : Int32) (p2 : Int64) : ∀ b, fX9_append F S t p1 p2 = some b → ∀ l dC dI cy, CT l dC dI cy ad yX9_append wsX9_append 0 0 [.ref (ad 8 t), .int p1, .long p2] S (some (.int b.1)) b.2 :=
  fun b hb l dC dI cy => ct_of (l := l) (dC := dC) (dI := dI) (cy := cy) outei (by decide) rfl (Nat.le_of_ble_eq_true rfl) rfl (fun X γ => tX9_append X γ F S t p1 p2) b hb
-- X9_clear
theorem nX9_clear_X9 : ∀ w ∈ u_ws RX9 TX9 4, w ∈ wsX9_clear := by decide +kernel
theorem wX9_clear_f26 : Cond.fieldLink RX9 26 "TwoTongues$Text" "length" "I" ∈ wsX9_clear := by decide +kernel
set_option maxRecDepth 100000 in
set_option maxHeartbeats 4000000 in
theorem tX9_clear {ad : Nat → Nat → Nat} (X : Ctx) (γ : Nat → Nat) (S : St) (t : Nat) : JJ X ad γ (RQm X ad 0 0 outei) (fcm outei) 0 0 cX9_clear 2 RX9 wsX9_clear (some .int) (fX9_clear S t) S 0 [(0, .ref (ad 8 t))] [] := by
  unfold fX9_clear
  refine j_gd (fun ht => ?_)
  have ht := of_decide_eq_true ht
  refine j_aload_n 0 0 dX9_clear_0 rfl rfl ?_
  refine j_geti 1 1 nX9_clear_X9 rfl (by decide) (prs_mem (by decide) ht) (by decide) (by decide) wX9_clear_f26 (Or.inl rfl) rfl dX9_clear_1 ?_
  refine j_bndi (fun x1_1 => ?_)
  refine j_istore_n (lv2 := [(1, .int x1_1), (0, .ref (ad 8 t))]) 4 dX9_clear_4 rfl (by decide) rfl ?_
  refine j_aload_n 5 1 dX9_clear_5 rfl rfl ?_
  refine j_iconst (v := 0) 6 dX9_clear_6 (by decide) ?_
  refine j_puti 7 1 nX9_clear_X9 rfl (by decide) (prs_mem (by decide) ht) (by decide) (by decide) wX9_clear_f26 (Or.inl rfl) tyX9 tyX9_ok nmX9 rfl (by decide) rfl dX9_clear_7 (j_bs (fun S_2 => ?_))
  refine j_iload_n 10 0 dX9_clear_10 rfl rfl ?_
  exact j_iret 11 rfl dX9_clear_11
set_option maxRecDepth 100000 in
set_option maxHeartbeats 4000000 in
theorem kX9_clear {ad : Nat → Nat → Nat} (S : St) (t : Nat) : ∀ b, fX9_clear S t = some b → ∀ l dC dI cy, CT l dC dI cy ad yX9_clear wsX9_clear 0 0 [.ref (ad 8 t)] S (some (.int b.1)) b.2 :=
  fun b hb l dC dI cy => ct_of (l := l) (dC := dC) (dI := dI) (cy := cy) outei (by decide) rfl (Nat.le_of_ble_eq_true rfl) rfl (fun X γ => tX9_clear X γ S t) b hb
-- X9_signAt
theorem nX9_signAt_X9 : ∀ w ∈ u_ws RX9 TX9 4, w ∈ wsX9_signAt := by decide +kernel
theorem wX9_signAt_f26 : Cond.fieldLink RX9 26 "TwoTongues$Text" "length" "I" ∈ wsX9_signAt := by decide +kernel
theorem wX9_signAt_stX11_within : Cond.static yX11_within ∈ wsX9_signAt := by decide +kernel
theorem wX9_signAt_inX11_within : Cond.initialized yX11_within.cls ∈ wsX9_signAt := by decide +kernel
theorem wX9_signAt_f9 : Cond.fieldLink RX9 9 "TwoTongues$Text" "bytes" "[B" ∈ wsX9_signAt := by decide +kernel
set_option maxRecDepth 100000 in
set_option maxHeartbeats 4000000 in
theorem tX9_signAt {ad : Nat → Nat → Nat} (X : Ctx) (γ : Nat → Nat) (S : St) (t : Nat) (p1 : Int32) : JJ X ad γ (RQm X ad 1 22 (outpi S)) (fcm (outpi S)) 1 22 cX9_signAt 2 RX9 wsX9_signAt (some .int) (fX9_signAt S t p1) S 0 [(0, .ref (ad 8 t)), (1, .int p1)] [] := by
  unfold fX9_signAt
  refine j_gd (fun ht => ?_)
  have ht := of_decide_eq_true ht
  refine j_iload_n 0 1 dX9_signAt_0 rfl rfl ?_
  refine j_iconst (v := 0) 1 dX9_signAt_1 (by decide) ?_
  refine j_aload_n 2 0 dX9_signAt_2 rfl rfl ?_
  refine j_geti 3 1 nX9_signAt_X9 rfl (by decide) (prs_mem (by decide) ht) (by decide) (by decide) wX9_signAt_f26 (Or.inl rfl) rfl dX9_signAt_3 ?_
  refine j_iconst (v := 1) 6 dX9_signAt_6 (by decide) ?_
  refine j_isub 7 dX9_signAt_7 ?_
  refine j_callSN_pi 8  [.int p1, .int 0, .int ((gI S 8 t 1) - 1)] [] (host := "TwoTongues") gX9_signAt_X11_within_n53 rfl (by decide +kernel) wX9_signAt_stX11_within wX9_signAt_inX11_within eX11_within ⟨Nat.le_of_ble_eq_true rfl, Nat.le_of_ble_eq_true rfl⟩ rfl rfl (Nat.le_of_ble_eq_true rfl) dX9_signAt_8 (kX11_within S p1 0 ((gI S 8 t 1) - 1)) (fun b_1 γ => ?_)
  refine j_if_eq 11 23 dX9_signAt_11 (by decide) (fun _ => ?_) (fun _ => ?_)
  · refine j_iconst (v := 0) 23 dX9_signAt_23 (by decide) ?_
    exact j_iret 24 rfl dX9_signAt_24
  · refine j_aload_n 14 0 dX9_signAt_14 rfl rfl ?_
    refine j_getr (c2 := 46) (n2 := t) 15 0 nX9_signAt_X9 rfl (by decide) (prs_mem (by decide) ht) (by decide) (by decide) wX9_signAt_f9 (Or.inl rfl) rfl rfl (n01 _) dX9_signAt_15 ?_
    refine j_iload_n 18 1 dX9_signAt_18 rfl rfl ?_
    refine j_bald (c := 46) (n := t) (L := 240) 19 (prs_mem (by decide) ht) (by decide) rfl rfl rfl dX9_signAt_19 ?_
    refine j_goto 20 24 dX9_signAt_20 (by decide) ?_
    exact j_iret 24 rfl dX9_signAt_24
set_option maxRecDepth 100000 in
set_option maxHeartbeats 4000000 in
theorem kX9_signAt {ad : Nat → Nat → Nat} (S : St) (t : Nat) (p1 : Int32) : ∀ b, fX9_signAt S t p1 = some b → ∀ l dC dI cy, CT l dC dI cy ad yX9_signAt wsX9_signAt 1 22 [.ref (ad 8 t), .int p1] S (some (.int b)) S :=
  fun b hb l dC dI cy => ct_of (l := l) (dC := dC) (dI := dI) (cy := cy) (outpi S) (by decide) rfl (Nat.le_of_ble_eq_true rfl) rfl (fun X γ => tX9_signAt X γ S t p1) b hb
-- X9_figuresAt
theorem wX9_figuresAt_stX11_within : Cond.static yX11_within ∈ wsX9_figuresAt := by decide +kernel
theorem wX9_figuresAt_inX11_within : Cond.initialized yX11_within.cls ∈ wsX9_figuresAt := by decide +kernel
set_option maxRecDepth 100000 in
set_option maxHeartbeats 4000000 in
theorem tX9_figuresAt_L2 {ad : Nat → Nat → Nat} (X : Ctx) (F : Nat) (S : St) (t : Nat) (x1 : Int32) (ht : t < 2)  : ∀ (n : Nat) (γ : Nat → Nat) (x2 : Int32), JJ X ad γ (RQm X ad 2 43 (outpi S)) (fcm (outpi S)) 2 43 cX9_figuresAt 3 RX9 wsX9_figuresAt (some .int) (fX9_figuresAt_L2 F S t x1 n x2) S 2 [(0, .ref (ad 8 t)), (1, .int x1), (2, .int x2)] [] := by
  intro n
  induction n with
  | zero => intro _ _; exact j_none
  | succ n ih =>
    intro γ x2
    rw [show fX9_figuresAt_L2 F S t x1 (n + 1) x2 = fX9_figuresAt_b2 F S t x1 (fX9_figuresAt_L2 F S t x1 n) x2 from rfl]
    unfold fX9_figuresAt_b2
    refine j_iload_n 2 2 dX9_figuresAt_2 rfl rfl ?_
    refine j_iconst (v := 3) 3 dX9_figuresAt_3 (by decide) ?_
    refine j_icmp_ge 4 30 dX9_figuresAt_4 (by decide) (fun _ => ?_) (fun _ => ?_)
    · refine j_iload_n 30 2 dX9_figuresAt_30 rfl rfl ?_
      exact j_iret 31 rfl dX9_figuresAt_31
    · refine j_aload_n 7 0 dX9_figuresAt_7 rfl rfl ?_
      refine j_iload_n 8 1 dX9_figuresAt_8 rfl rfl ?_
      refine j_iload_n 9 2 dX9_figuresAt_9 rfl rfl ?_
      refine j_iadd 10 dX9_figuresAt_10 ?_
      refine j_callV_pi 11 rfl (by decide) (prs_mem (by decide) ht)  [.int (x1 + x2)] [] gX9_figuresAt_X9_signAt rfl eX9_signAt ⟨Nat.le_of_ble_eq_true rfl, Nat.le_of_ble_eq_true rfl⟩ rfl rfl (Nat.le_of_ble_eq_true rfl) dX9_figuresAt_11 (kX9_signAt S t (x1 + x2)) (fun b_1 γ => ?_)
      refine j_bipush (v := 48) 14 dX9_figuresAt_14 (by decide) ?_
      refine j_bipush (v := 57) 16 dX9_figuresAt_16 (by decide) ?_
      refine j_callSN_pi 18  [.int b_1, .int 48, .int 57] [] (host := "TwoTongues") gX9_figuresAt_X11_within_n53 rfl (by decide +kernel) wX9_figuresAt_stX11_within wX9_figuresAt_inX11_within eX11_within ⟨Nat.le_of_ble_eq_true rfl, Nat.le_of_ble_eq_true rfl⟩ rfl rfl (Nat.le_of_ble_eq_true rfl) dX9_figuresAt_18 (kX11_within S b_1 48 57) (fun b_2 γ => ?_)
      refine j_if_eq 21 30 dX9_figuresAt_21 (by decide) (fun _ => ?_) (fun _ => ?_)
      · refine j_iload_n 30 2 dX9_figuresAt_30 rfl rfl ?_
        exact j_iret 31 rfl dX9_figuresAt_31
      · refine j_iinc (v := x2 + 1) (lv2 := [(2, .int (x2 + 1)), (0, .ref (ad 8 t)), (1, .int x1)]) 24 2 dX9_figuresAt_24 rfl rfl (by decide) rfl ?_
        refine j_goto 27 2 dX9_figuresAt_27 (by decide) ?_
        refine j_sub [1, 2, 0] rfl ?_
        exact ih _ (x2 + 1)
set_option maxRecDepth 100000 in
set_option maxHeartbeats 4000000 in
theorem tX9_figuresAt {ad : Nat → Nat → Nat} (X : Ctx) (γ : Nat → Nat) (F : Nat) (S : St) (t : Nat) (p1 : Int32) : JJ X ad γ (RQm X ad 2 43 (outpi S)) (fcm (outpi S)) 2 43 cX9_figuresAt 3 RX9 wsX9_figuresAt (some .int) (fX9_figuresAt F S t p1) S 0 [(0, .ref (ad 8 t)), (1, .int p1)] [] := by
  unfold fX9_figuresAt
  refine j_gd (fun ht => ?_)
  have ht := of_decide_eq_true ht
  refine j_iconst (v := 0) 0 dX9_figuresAt_0 (by decide) ?_
  refine j_istore_n (lv2 := [(2, .int 0), (0, .ref (ad 8 t)), (1, .int p1)]) 1 dX9_figuresAt_1 rfl (by decide) rfl ?_
  refine j_sub [1, 2, 0] rfl ?_
  exact tX9_figuresAt_L2 X F S t p1 ht F _ 0
set_option maxRecDepth 100000 in
set_option maxHeartbeats 4000000 in
theorem kX9_figuresAt {ad : Nat → Nat → Nat} (F : Nat) (S : St) (t : Nat) (p1 : Int32) : ∀ b, fX9_figuresAt F S t p1 = some b → ∀ l dC dI cy, CT l dC dI cy ad yX9_figuresAt wsX9_figuresAt 2 43 [.ref (ad 8 t), .int p1] S (some (.int b)) S :=
  fun b hb l dC dI cy => ct_of (l := l) (dC := dC) (dI := dI) (cy := cy) (outpi S) (by decide) rfl (Nat.le_of_ble_eq_true rfl) rfl (fun X γ => tX9_figuresAt X γ F S t p1) b hb
-- X9_numberAt
set_option maxRecDepth 100000 in
set_option maxHeartbeats 4000000 in
theorem tX9_numberAt_L5 {ad : Nat → Nat → Nat} (X : Ctx) (F : Nat) (S : St) (t : Nat) (x2 : Int32) (ht : t < 2)  : ∀ (n : Nat) (γ : Nat → Nat) (x3 : Int32) (x4 : Int32), JJ X ad γ (RQm X ad 2 43 (outpi S)) (fcm (outpi S)) 2 43 cX9_numberAt 5 RX9 wsX9_numberAt (some .int) (fX9_numberAt_L5 F S t x2 n x3 x4) S 5 [(0, .ref (ad 8 t)), (2, .int x2), (3, .int x3), (4, .int x4)] [] := by
  intro n
  induction n with
  | zero => intro _ _ _; exact j_none
  | succ n ih =>
    intro γ x3 x4
    rw [show fX9_numberAt_L5 F S t x2 (n + 1) x3 x4 = fX9_numberAt_b5 F S t x2 (fX9_numberAt_L5 F S t x2 n) x3 x4 from rfl]
    unfold fX9_numberAt_b5
    refine j_iload 5 3 dX9_numberAt_5 rfl ?_
    refine j_iload_n 7 1 dX9_numberAt_7 rfl rfl ?_
    refine j_icmp_ge 8 32 dX9_numberAt_8 (by decide) (fun _ => ?_) (fun _ => ?_)
    · refine j_iload_n 32 2 dX9_numberAt_32 rfl rfl ?_
      exact j_iret 33 rfl dX9_numberAt_33
    · refine j_bipush (v := 10) 11 dX9_numberAt_11 (by decide) ?_
      refine j_iload_n 13 2 dX9_numberAt_13 rfl rfl ?_
      refine j_imul 14 dX9_numberAt_14 ?_
      refine j_aload_n 15 0 dX9_numberAt_15 rfl rfl ?_
      refine j_iload 16 3 dX9_numberAt_16 rfl ?_
      refine j_callV_pi 18 rfl (by decide) (prs_mem (by decide) ht)  [.int x4] [.int ((10 : Int32) * x3)] gX9_numberAt_X9_signAt rfl eX9_signAt ⟨Nat.le_of_ble_eq_true rfl, Nat.le_of_ble_eq_true rfl⟩ rfl rfl (Nat.le_of_ble_eq_true rfl) dX9_numberAt_18 (kX9_signAt S t x4) (fun b_1 γ => ?_)
      refine j_iadd 21 dX9_numberAt_21 ?_
      refine j_bipush (v := 48) 22 dX9_numberAt_22 (by decide) ?_
      refine j_isub 24 dX9_numberAt_24 ?_
      refine j_bndi (fun x3_2 => ?_)
      refine j_istore_n (lv2 := [(3, .int x3_2), (0, .ref (ad 8 t)), (2, .int x2), (4, .int x4)]) 25 dX9_numberAt_25 rfl (by decide) rfl ?_
      refine j_iinc (v := x4 + 1) (lv2 := [(4, .int (x4 + 1)), (3, .int x3_2), (0, .ref (ad 8 t)), (2, .int x2)]) 26 3 dX9_numberAt_26 rfl rfl (by decide) rfl ?_
      refine j_goto 29 5 dX9_numberAt_29 (by decide) ?_
      refine j_sub [2, 3, 1, 0] rfl ?_
      exact ih _ x3_2 (x4 + 1)
set_option maxRecDepth 100000 in
set_option maxHeartbeats 4000000 in
theorem tX9_numberAt {ad : Nat → Nat → Nat} (X : Ctx) (γ : Nat → Nat) (F : Nat) (S : St) (t : Nat) (p1 : Int32) (p2 : Int32) : JJ X ad γ (RQm X ad 2 43 (outpi S)) (fcm (outpi S)) 2 43 cX9_numberAt 5 RX9 wsX9_numberAt (some .int) (fX9_numberAt F S t p1 p2) S 0 [(0, .ref (ad 8 t)), (1, .int p1), (2, .int p2)] [] := by
  unfold fX9_numberAt
  refine j_gd (fun ht => ?_)
  have ht := of_decide_eq_true ht
  refine j_iconst (v := 0) 0 dX9_numberAt_0 (by decide) ?_
  refine j_istore_n (lv2 := [(3, .int 0), (0, .ref (ad 8 t)), (1, .int p1), (2, .int p2)]) 1 dX9_numberAt_1 rfl (by decide) rfl ?_
  refine j_iload_n 2 2 dX9_numberAt_2 rfl rfl ?_
  refine j_istore (lv2 := [(4, .int p1), (3, .int 0), (0, .ref (ad 8 t)), (1, .int p1), (2, .int p2)]) 3 dX9_numberAt_3 (by decide) rfl ?_
  refine j_sub [2, 4, 1, 0] rfl ?_
  exact tX9_numberAt_L5 X F S t p2 ht F _ 0 p1
set_option maxRecDepth 100000 in
set_option maxHeartbeats 4000000 in
theorem kX9_numberAt {ad : Nat → Nat → Nat} (F : Nat) (S : St) (t : Nat) (p1 : Int32) (p2 : Int32) : ∀ b, fX9_numberAt F S t p1 p2 = some b → ∀ l dC dI cy, CT l dC dI cy ad yX9_numberAt wsX9_numberAt 2 43 [.ref (ad 8 t), .int p1, .int p2] S (some (.int b)) S :=
  fun b hb l dC dI cy => ct_of (l := l) (dC := dC) (dI := dI) (cy := cy) (outpi S) (by decide) rfl (Nat.le_of_ble_eq_true rfl) rfl (fun X γ => tX9_numberAt X γ F S t p1 p2) b hb
-- X9_read
theorem nX9_read_X9 : ∀ w ∈ u_ws RX9 TX9 4, w ∈ wsX9_read := by decide +kernel
theorem wX9_read_f15 : Cond.fieldLink RX9 15 "TwoTongues$Text" "numbers" "[I" ∈ wsX9_read := by decide +kernel
set_option maxRecDepth 100000 in
set_option maxHeartbeats 4000000 in
theorem tX9_read_j77 {ad : Nat → Nat → Nat} (X : Ctx) (γ : Nat → Nat) (F : Nat) (S : St) (t : Nat) (m2 : Nat) (x3 : Int32) (x4 : Int32) (x5 : Int32) (x6 : Int32) (x7 : Int32) (s0 : Int32) (rec : Int32 → Int32 → St → Option (Int32 × St)) (ht : t < 2) (hm2 : m2 < 70) (ih : ∀ (γ : Nat → Nat) (x5 : Int32) (x6 : Int32) (S : St), JJ X ad γ (RQm X ad 3 67 outei) (fcm outei) 3 67 cX9_read 9 RX9 wsX9_read (some .int) (rec x5 x6 S) S 43 [(0, .ref (ad 8 t)), (2, .ref (ad 3 m2)), (3, .int x3), (4, .int x4), (5, .int x5), (6, .int x6)] []) : JJ X ad γ (RQm X ad 3 67 outei) (fcm outei) 3 67 cX9_read 9 RX9 wsX9_read (some .int) (fX9_read_j77 F S t m2 x3 x4 x5 x6 x7 s0 rec) S 77 [(0, .ref (ad 8 t)), (2, .ref (ad 3 m2)), (3, .int x3), (4, .int x4), (5, .int x5), (6, .int x6), (7, .int x7)] [.int s0] := by
  unfold fX9_read_j77
  refine j_istore (lv2 := [(8, .int s0), (0, .ref (ad 8 t)), (2, .ref (ad 3 m2)), (3, .int x3), (4, .int x4), (5, .int x5), (6, .int x6), (7, .int x7)]) 77 dX9_read_77 (by decide) rfl ?_
  refine j_iload 79 7 dX9_read_79 rfl ?_
  refine j_iload 81 5 dX9_read_81 rfl ?_
  refine j_icmp_eq 83 97 dX9_read_83 (by decide) (fun _ => ?_) (fun _ => ?_)
  · refine j_iconst (v := (-1)) 97 dX9_read_97 (by decide) ?_
    exact j_iret 98 rfl dX9_read_98
  · refine j_aload_n 86 1 dX9_read_86 rfl rfl ?_
    refine j_iload 87 7 dX9_read_87 rfl ?_
    refine j_callV_pi 89 rfl (by decide) (prs_mem (by decide) ht)  [.int x7] [] gX9_read_X9_signAt rfl eX9_signAt ⟨Nat.le_of_ble_eq_true rfl, Nat.le_of_ble_eq_true rfl⟩ rfl rfl (Nat.le_of_ble_eq_true rfl) dX9_read_89 (kX9_signAt S t x7) (fun b_5 γ => ?_)
    refine j_iload 92 0 dX9_read_92 rfl ?_
    refine j_icmp_eq 94 99 dX9_read_94 (by decide) (fun _ => ?_) (fun _ => ?_)
    · refine j_aload_n 99 1 dX9_read_99 rfl rfl ?_
      refine j_getr (c2 := 47) (n2 := t) 100 2 nX9_read_X9 rfl (by decide) (prs_mem (by decide) ht) (by decide) (by decide) wX9_read_f15 (Or.inl rfl) rfl rfl (n01 _) dX9_read_100 ?_
      refine j_iload 103 6 dX9_read_103 rfl ?_
      refine j_aload_n 105 1 dX9_read_105 rfl rfl ?_
      refine j_iload 106 5 dX9_read_106 rfl ?_
      refine j_iload 108 7 dX9_read_108 rfl ?_
      refine j_callV_pi 110 rfl (by decide) (prs_mem (by decide) ht)  [.int x5, .int x7] [.int x6, .ref (ad 47 t)] gX9_read_X9_numberAt rfl eX9_numberAt ⟨Nat.le_of_ble_eq_true rfl, Nat.le_of_ble_eq_true rfl⟩ rfl rfl (Nat.le_of_ble_eq_true rfl) dX9_read_110 (kX9_numberAt F S t x5 x7) (fun b_6 γ => ?_)
      refine j_iast (c := 47) (n := t) (L := 5) 113 (prs_mem (by decide) ht) (by decide) rfl rfl rfl dX9_read_113 (j_bs (fun S_7 => ?_))
      refine j_iload 114 7 dX9_read_114 rfl ?_
      refine j_iconst (v := 1) 116 dX9_read_116 (by decide) ?_
      refine j_iadd 117 dX9_read_117 ?_
      refine j_bndi (fun x5_8 => ?_)
      refine j_istore (lv2 := [(5, .int x5_8), (8, .int s0), (0, .ref (ad 8 t)), (2, .ref (ad 3 m2)), (3, .int x3), (4, .int x4), (6, .int x6), (7, .int x7)]) 118 dX9_read_118 (by decide) rfl ?_
      refine j_iinc (v := x6 + 1) (lv2 := [(6, .int (x6 + 1)), (5, .int x5_8), (8, .int s0), (0, .ref (ad 8 t)), (2, .ref (ad 3 m2)), (3, .int x3), (4, .int x4), (7, .int x7)]) 120 6 dX9_read_120 rfl rfl (by decide) rfl ?_
      refine j_goto 123 43 dX9_read_123 (by decide) ?_
      refine j_sub [3, 4, 5, 6, 1, 0] rfl ?_
      exact ih _ x5_8 (x6 + 1) S_7
    · refine j_iconst (v := (-1)) 97 dX9_read_97 (by decide) ?_
      exact j_iret 98 rfl dX9_read_98
set_option maxRecDepth 100000 in
set_option maxHeartbeats 4000000 in
theorem tX9_read_L43 {ad : Nat → Nat → Nat} (X : Ctx) (F : Nat) (t : Nat) (m2 : Nat) (x3 : Int32) (x4 : Int32) (k126 : Int32 → St → Option (Int32 × St)) (ht : t < 2) (hm2 : m2 < 70) (hk126 : ∀ (γ : Nat → Nat) (x5 : Int32) (S : St), JJ X ad γ (RQm X ad 3 67 outei) (fcm outei) 3 67 cX9_read 9 RX9 wsX9_read (some .int) (k126 x5 S) S 126 [(0, .ref (ad 8 t)), (2, .ref (ad 3 m2)), (3, .int x3), (4, .int x4), (5, .int x5)] []) : ∀ (n : Nat) (γ : Nat → Nat) (x5 : Int32) (x6 : Int32) (S : St), JJ X ad γ (RQm X ad 3 67 outei) (fcm outei) 3 67 cX9_read 9 RX9 wsX9_read (some .int) (fX9_read_L43 F t m2 x3 x4 k126 n x5 x6 S) S 43 [(0, .ref (ad 8 t)), (2, .ref (ad 3 m2)), (3, .int x3), (4, .int x4), (5, .int x5), (6, .int x6)] [] := by
  intro n
  induction n with
  | zero => intro _ _ _ _; exact j_none
  | succ n ih =>
    intro γ x5 x6 S
    rw [show fX9_read_L43 F t m2 x3 x4 k126 (n + 1) x5 x6 S = fX9_read_b43 F t m2 x3 x4 k126 (fX9_read_L43 F t m2 x3 x4 k126 n) x5 x6 S from rfl]
    unfold fX9_read_b43
    refine j_iload 43 5 dX9_read_43 rfl ?_
    refine j_iload 45 3 dX9_read_45 rfl ?_
    refine j_icmp_ge 47 126 dX9_read_47 (by decide) (fun _ => ?_) (fun _ => ?_)
    · refine j_sub [0, 1, 2, 3, 4] rfl ?_
      exact hk126 _ x5 S
    · refine j_iload 50 4 dX9_read_50 rfl ?_
      refine j_aload_n 52 0 dX9_read_52 rfl rfl ?_
      refine j_iload 53 4 dX9_read_53 rfl ?_
      refine j_callV_pi 55 rfl (by decide) (prs_mem (by decide) ht)  [.int x5] [.int x5] gX9_read_X9_figuresAt rfl eX9_figuresAt ⟨Nat.le_of_ble_eq_true rfl, Nat.le_of_ble_eq_true rfl⟩ rfl rfl (Nat.le_of_ble_eq_true rfl) dX9_read_55 (kX9_figuresAt F S t x5) (fun b_3 γ => ?_)
      refine j_iadd 58 dX9_read_58 ?_
      refine j_bndi (fun x7_4 => ?_)
      refine j_istore (lv2 := [(7, .int x7_4), (0, .ref (ad 8 t)), (2, .ref (ad 3 m2)), (3, .int x3), (4, .int x4), (5, .int x5), (6, .int x6)]) 59 dX9_read_59 (by decide) rfl ?_
      refine j_iload 61 6 dX9_read_61 rfl ?_
      refine j_iload 63 4 dX9_read_63 rfl ?_
      refine j_iconst (v := 1) 65 dX9_read_65 (by decide) ?_
      refine j_isub 66 dX9_read_66 ?_
      refine j_icmp_ne 67 75 dX9_read_67 (by decide) (fun _ => ?_) (fun _ => ?_)
      · refine j_bipush (v := 44) 75 dX9_read_75 (by decide) ?_
        refine j_sub [1, 2, 3, 4, 5, 6, 0] rfl ?_
        exact tX9_read_j77 X _ F S t m2 x3 x4 x5 x6 x7_4 44 _ ht hm2 ih
      · refine j_bipush (v := 59) 70 dX9_read_70 (by decide) ?_
        refine j_goto 72 77 dX9_read_72 (by decide) ?_
        refine j_sub [1, 2, 3, 4, 5, 6, 0] rfl ?_
        exact tX9_read_j77 X _ F S t m2 x3 x4 x5 x6 x7_4 59 _ ht hm2 ih
set_option maxRecDepth 100000 in
set_option maxHeartbeats 4000000 in
theorem tX9_read_j33 {ad : Nat → Nat → Nat} (X : Ctx) (γ : Nat → Nat) (F : Nat) (S : St) (t : Nat) (x1 : Int32) (m2 : Nat) (x3 : Int32) (s0 : Int32) (ht : t < 2) (hm2 : m2 < 70)  : JJ X ad γ (RQm X ad 3 67 outei) (fcm outei) 3 67 cX9_read 9 RX9 wsX9_read (some .int) (fX9_read_j33 F S t x1 m2 x3 s0) S 33 [(0, .ref (ad 8 t)), (1, .int x1), (2, .ref (ad 3 m2)), (3, .int x3)] [.int s0] := by
  unfold fX9_read_j33
  refine j_istore (lv2 := [(4, .int s0), (0, .ref (ad 8 t)), (1, .int x1), (2, .ref (ad 3 m2)), (3, .int x3)]) 33 dX9_read_33 (by decide) rfl ?_
  refine j_iload_n 35 2 dX9_read_35 rfl rfl ?_
  refine j_iconst (v := 1) 36 dX9_read_36 (by decide) ?_
  refine j_iadd 37 dX9_read_37 ?_
  refine j_bndi (fun x5_2 => ?_)
  refine j_istore (lv2 := [(5, .int x5_2), (4, .int s0), (0, .ref (ad 8 t)), (1, .int x1), (2, .ref (ad 3 m2)), (3, .int x3)]) 38 dX9_read_38 (by decide) rfl ?_
  refine j_iconst (v := 0) 40 dX9_read_40 (by decide) ?_
  refine j_istore (lv2 := [(6, .int 0), (5, .int x5_2), (4, .int s0), (0, .ref (ad 8 t)), (1, .int x1), (2, .ref (ad 3 m2)), (3, .int x3)]) 41 dX9_read_41 (by decide) rfl ?_
  refine j_sub [3, 5, 6, 2, 1, 0] rfl ?_
  refine tX9_read_L43 X F t m2 x3 s0 _ ht hm2 (fun γ x5_10 S_9 => ?_) F _ x5_2 0 S
  refine j_iload 126 3 dX9_read_126 rfl ?_
  refine j_if_ne 128 133 dX9_read_128 (by decide) (fun _ => ?_) (fun _ => ?_)
  · refine j_aload_n 133 1 dX9_read_133 rfl rfl ?_
    refine j_iload_n 134 2 dX9_read_134 rfl rfl ?_
    refine j_aload_n 135 0 dX9_read_135 rfl rfl ?_
    refine j_getr (c2 := 47) (n2 := t) 136 2 nX9_read_X9 rfl (by decide) (prs_mem (by decide) ht) (by decide) (by decide) wX9_read_f15 (Or.inl rfl) rfl rfl (n01 _) dX9_read_136 ?_
    refine j_callV_ev 139 rfl (by decide) (prs_mem (by decide) hm2)  [.int x3, .ref (ad 47 t)] [] gX9_read_X3_fill rfl eX3_fill ⟨Nat.le_of_ble_eq_true rfl, Nat.le_of_ble_eq_true rfl⟩ rfl rfl (Nat.le_of_ble_eq_true rfl) dX9_read_139 (kX3_fill S_9 m2 x3 t) (fun b_11 γ => ?_)
    refine j_aload_n 142 1 dX9_read_142 rfl rfl ?_
    refine j_callV_pi 143 rfl (by decide) (prs_mem (by decide) hm2)  [] [] gX9_read_X3_isInBounds rfl eX3_isInBounds ⟨Nat.le_of_ble_eq_true rfl, Nat.le_of_ble_eq_true rfl⟩ rfl rfl (Nat.le_of_ble_eq_true rfl) dX9_read_143 (kX3_isInBounds b_11 m2) (fun b_12 γ => ?_)
    refine j_if_eq 146 154 dX9_read_146 (by decide) (fun _ => ?_) (fun _ => ?_)
    · refine j_iconst (v := (-1)) 154 dX9_read_154 (by decide) ?_
      exact j_iret 155 rfl dX9_read_155
    · refine j_iload 149 4 dX9_read_149 rfl ?_
      refine j_goto 151 155 dX9_read_151 (by decide) ?_
      exact j_iret 155 rfl dX9_read_155
  · refine j_iconst (v := (-1)) 131 dX9_read_131 (by decide) ?_
    exact j_iret 132 rfl dX9_read_132
set_option maxRecDepth 100000 in
set_option maxHeartbeats 4000000 in
theorem tX9_read_j28 {ad : Nat → Nat → Nat} (X : Ctx) (γ : Nat → Nat) (F : Nat) (S : St) (t : Nat) (x1 : Int32) (m2 : Nat) (x3 : Int32) (ht : t < 2) (hm2 : m2 < 70)  : JJ X ad γ (RQm X ad 3 67 outei) (fcm outei) 3 67 cX9_read 9 RX9 wsX9_read (some .int) (fX9_read_j28 F S t x1 m2 x3) S 28 [(0, .ref (ad 8 t)), (1, .int x1), (2, .ref (ad 3 m2)), (3, .int x3)] [] := by
  unfold fX9_read_j28
  refine j_iconst (v := 5) 28 dX9_read_28 (by decide) ?_
  refine j_goto 29 33 dX9_read_29 (by decide) ?_
  exact tX9_read_j33 X _ F S t x1 m2 x3 5 ht hm2
set_option maxRecDepth 100000 in
set_option maxHeartbeats 4000000 in
theorem tX9_read {ad : Nat → Nat → Nat} (X : Ctx) (γ : Nat → Nat) (F : Nat) (S : St) (t : Nat) (p1 : Int32) (m2 : Nat) : JJ X ad γ (RQm X ad 3 67 outei) (fcm outei) 3 67 cX9_read 9 RX9 wsX9_read (some .int) (fX9_read F S t p1 m2) S 0 [(0, .ref (ad 8 t)), (1, .int p1), (2, .ref (ad 3 m2))] [] := by
  unfold fX9_read
  refine j_gd (fun ht => ?_)
  have ht := of_decide_eq_true ht
  refine j_gd (fun hm2 => ?_)
  have hm2 := of_decide_eq_true hm2
  refine j_aload_n 0 0 dX9_read_0 rfl rfl ?_
  refine j_iload_n 1 1 dX9_read_1 rfl rfl ?_
  refine j_callV_pi 2 rfl (by decide) (prs_mem (by decide) ht)  [.int p1] [] gX9_read_X9_signAt rfl eX9_signAt ⟨Nat.le_of_ble_eq_true rfl, Nat.le_of_ble_eq_true rfl⟩ rfl rfl (Nat.le_of_ble_eq_true rfl) dX9_read_2 (kX9_signAt S t p1) (fun b_1 γ => ?_)
  refine j_istore_n (lv2 := [(3, .int b_1), (0, .ref (ad 8 t)), (1, .int p1), (2, .ref (ad 3 m2))]) 5 dX9_read_5 rfl (by decide) rfl ?_
  refine j_iload_n 6 0 dX9_read_6 rfl rfl ?_
  refine j_bipush (v := 119) 7 dX9_read_7 (by decide) ?_
  refine j_icmp_ne 9 16 dX9_read_9 (by decide) (fun _ => ?_) (fun _ => ?_)
  · refine j_iload_n 16 0 dX9_read_16 rfl rfl ?_
    refine j_bipush (v := 108) 17 dX9_read_17 (by decide) ?_
    refine j_icmp_eq 19 28 dX9_read_19 (by decide) (fun _ => ?_) (fun _ => ?_)
    · refine j_sub [1, 2, 3, 0] rfl ?_
      exact tX9_read_j28 X _ F S t p1 m2 b_1 ht hm2
    · refine j_iload_n 22 0 dX9_read_22 rfl rfl ?_
      refine j_bipush (v := 98) 23 dX9_read_23 (by decide) ?_
      refine j_icmp_ne 25 32 dX9_read_25 (by decide) (fun _ => ?_) (fun _ => ?_)
      · refine j_iconst (v := 0) 32 dX9_read_32 (by decide) ?_
        refine j_sub [1, 2, 3, 0] rfl ?_
        exact tX9_read_j33 X _ F S t p1 m2 b_1 0 ht hm2
      · refine j_sub [1, 2, 3, 0] rfl ?_
        exact tX9_read_j28 X _ F S t p1 m2 b_1 ht hm2
  · refine j_iconst (v := 3) 12 dX9_read_12 (by decide) ?_
    refine j_goto 13 33 dX9_read_13 (by decide) ?_
    refine j_sub [1, 2, 3, 0] rfl ?_
    exact tX9_read_j33 X _ F S t p1 m2 b_1 3 ht hm2
set_option maxRecDepth 100000 in
set_option maxHeartbeats 4000000 in
theorem kX9_read {ad : Nat → Nat → Nat} (F : Nat) (S : St) (t : Nat) (p1 : Int32) (m2 : Nat) : ∀ b, fX9_read F S t p1 m2 = some b → ∀ l dC dI cy, CT l dC dI cy ad yX9_read wsX9_read 3 67 [.ref (ad 8 t), .int p1, .ref (ad 3 m2)] S (some (.int b.1)) b.2 :=
  fun b hb l dC dI cy => ct_of (l := l) (dC := dC) (dI := dI) (cy := cy) outei (by decide) rfl (Nat.le_of_ble_eq_true rfl) rfl (fun X γ => tX9_read X γ F S t p1 m2) b hb
-- X9_firstFault
theorem nX9_firstFault_X9 : ∀ w ∈ u_ws RX9 TX9 4, w ∈ wsX9_firstFault := by decide +kernel
theorem wX9_firstFault_f26 : Cond.fieldLink RX9 26 "TwoTongues$Text" "length" "I" ∈ wsX9_firstFault := by decide +kernel
theorem wX9_firstFault_f22 : Cond.fieldLink RX9 22 "TwoTongues$Text" "probe" "LTwoTongues$Item;" ∈ wsX9_firstFault := by decide +kernel
set_option maxRecDepth 100000 in
set_option maxHeartbeats 4000000 in
theorem tX9_firstFault_L4 {ad : Nat → Nat → Nat} (X : Ctx) (F : Nat) (t : Nat) (ht : t < 2)  : ∀ (n : Nat) (γ : Nat → Nat) (x1 : Int32) (x2 : Int32) (S : St), JJ X ad γ (RQm X ad 4 95 outei) (fcm outei) 4 95 cX9_firstFault 4 RX9 wsX9_firstFault (some .int) (fX9_firstFault_L4 F t n x1 x2 S) S 4 [(0, .ref (ad 8 t)), (1, .int x1), (2, .int x2)] [] := by
  intro n
  induction n with
  | zero => intro _ _ _ _; exact j_none
  | succ n ih =>
    intro γ x1 x2 S
    rw [show fX9_firstFault_L4 F t (n + 1) x1 x2 S = fX9_firstFault_b4 F t (fX9_firstFault_L4 F t n) x1 x2 S from rfl]
    unfold fX9_firstFault_b4
    refine j_iload_n 4 2 dX9_firstFault_4 rfl rfl ?_
    refine j_sipush (v := 240) 5 dX9_firstFault_5 (by decide) ?_
    refine j_icmp_ge 8 43 dX9_firstFault_8 (by decide) (fun _ => ?_) (fun _ => ?_)
    · refine j_bipush (v := (-4)) 43 dX9_firstFault_43 (by decide) ?_
      exact j_iret 45 rfl dX9_firstFault_45
    · refine j_iload_n 11 1 dX9_firstFault_11 rfl rfl ?_
      refine j_aload_n 12 0 dX9_firstFault_12 rfl rfl ?_
      refine j_geti 13 1 nX9_firstFault_X9 rfl (by decide) (prs_mem (by decide) ht) (by decide) (by decide) wX9_firstFault_f26 (Or.inl rfl) rfl dX9_firstFault_13 ?_
      refine j_icmp_ge 16 43 dX9_firstFault_16 (by decide) (fun _ => ?_) (fun _ => ?_)
      · refine j_bipush (v := (-4)) 43 dX9_firstFault_43 (by decide) ?_
        exact j_iret 45 rfl dX9_firstFault_45
      · refine j_aload_n 19 0 dX9_firstFault_19 rfl rfl ?_
        refine j_iload_n 20 1 dX9_firstFault_20 rfl rfl ?_
        refine j_aload_n 21 0 dX9_firstFault_21 rfl rfl ?_
        refine j_getr (c2 := 3) (n2 := (68 + t)) 22 3 nX9_firstFault_X9 rfl (by decide) (prs_mem (by decide) ht) (by decide) (by decide) wX9_firstFault_f22 (Or.inl rfl) rfl rfl (n68 _) dX9_firstFault_22 ?_
        refine j_callV_ei 25 rfl (by decide) (prs_mem (by decide) ht)  [.int x1, .ref (ad 3 (68 + t))] [] gX9_firstFault_X9_read rfl eX9_read ⟨Nat.le_of_ble_eq_true rfl, Nat.le_of_ble_eq_true rfl⟩ rfl rfl (Nat.le_of_ble_eq_true rfl) dX9_firstFault_25 (kX9_read F S t x1 (68 + t)) (fun b_1 γ => ?_)
        refine j_istore_n (lv2 := [(3, .int b_1.1), (0, .ref (ad 8 t)), (1, .int x1), (2, .int x2)]) 28 dX9_firstFault_28 rfl (by decide) rfl ?_
        refine j_iload_n 29 0 dX9_firstFault_29 rfl rfl ?_
        refine j_if_ge 30 35 dX9_firstFault_30 (by decide) (fun _ => ?_) (fun _ => ?_)
        · refine j_iload_n 35 0 dX9_firstFault_35 rfl rfl ?_
          refine j_istore_n (lv2 := [(1, .int b_1.1), (3, .int b_1.1), (0, .ref (ad 8 t)), (2, .int x2)]) 36 dX9_firstFault_36 rfl (by decide) rfl ?_
          refine j_iinc (v := x2 + 1) (lv2 := [(2, .int (x2 + 1)), (1, .int b_1.1), (3, .int b_1.1), (0, .ref (ad 8 t))]) 37 3 dX9_firstFault_37 rfl rfl (by decide) rfl ?_
          refine j_goto 40 4 dX9_firstFault_40 (by decide) ?_
          refine j_sub [3, 1, 0] rfl ?_
          exact ih _ b_1.1 (x2 + 1) b_1.2
        · refine j_iload_n 33 2 dX9_firstFault_33 rfl rfl ?_
          exact j_iret 34 rfl dX9_firstFault_34
set_option maxRecDepth 100000 in
set_option maxHeartbeats 4000000 in
theorem tX9_firstFault {ad : Nat → Nat → Nat} (X : Ctx) (γ : Nat → Nat) (F : Nat) (S : St) (t : Nat) : JJ X ad γ (RQm X ad 4 95 outei) (fcm outei) 4 95 cX9_firstFault 4 RX9 wsX9_firstFault (some .int) (fX9_firstFault F S t) S 0 [(0, .ref (ad 8 t))] [] := by
  unfold fX9_firstFault
  refine j_gd (fun ht => ?_)
  have ht := of_decide_eq_true ht
  refine j_iconst (v := 0) 0 dX9_firstFault_0 (by decide) ?_
  refine j_istore_n (lv2 := [(1, .int 0), (0, .ref (ad 8 t))]) 1 dX9_firstFault_1 rfl (by decide) rfl ?_
  refine j_iconst (v := 0) 2 dX9_firstFault_2 (by decide) ?_
  refine j_istore_n (lv2 := [(2, .int 0), (1, .int 0), (0, .ref (ad 8 t))]) 3 dX9_firstFault_3 rfl (by decide) rfl ?_
  refine j_sub [2, 1, 0] rfl ?_
  exact tX9_firstFault_L4 X F t ht F _ 0 0 S
set_option maxRecDepth 100000 in
set_option maxHeartbeats 4000000 in
theorem kX9_firstFault {ad : Nat → Nat → Nat} (F : Nat) (S : St) (t : Nat) : ∀ b, fX9_firstFault F S t = some b → ∀ l dC dI cy, CT l dC dI cy ad yX9_firstFault wsX9_firstFault 4 95 [.ref (ad 8 t)] S (some (.int b.1)) b.2 :=
  fun b hb l dC dI cy => ct_of (l := l) (dC := dC) (dI := dI) (cy := cy) outei (by decide) rfl (Nat.le_of_ble_eq_true rfl) rfl (fun X γ => tX9_firstFault X γ F S t) b hb
-- X10_tell
theorem nX10_tell_X10 : ∀ w ∈ u_ws RX10 TX10 8, w ∈ wsX10_tell := by decide +kernel
theorem wX10_tell_f38 : Cond.fieldLink RX10 38 "TwoTongues$Tongue" "told" "I" ∈ wsX10_tell := by decide +kernel
theorem wX10_tell_f9 : Cond.fieldLink RX10 9 "TwoTongues$Tongue" "toldWord" "[I" ∈ wsX10_tell := by decide +kernel
theorem wX10_tell_f15 : Cond.fieldLink RX10 15 "TwoTongues$Tongue" "toldYear" "[I" ∈ wsX10_tell := by decide +kernel
theorem wX10_tell_f18 : Cond.fieldLink RX10 18 "TwoTongues$Tongue" "toldVerbs" "[I" ∈ wsX10_tell := by decide +kernel
set_option maxRecDepth 100000 in
set_option maxHeartbeats 4000000 in
theorem tX10_tell {ad : Nat → Nat → Nat} (X : Ctx) (γ : Nat → Nat) (S : St) (t : Nat) (p1 : Int32) (p2 : Int32) (p3 : Int32) : JJ X ad γ (RQm X ad 0 0 outei) (fcm outei) 0 0 cX10_tell 4 RX10 wsX10_tell (some .int) (fX10_tell S t p1 p2 p3) S 0 [(0, .ref (ad 9 t)), (1, .int p1), (2, .int p2), (3, .int p3)] [] := by
  unfold fX10_tell
  refine j_gd (fun ht => ?_)
  have ht := of_decide_eq_true ht
  refine j_aload_n 0 0 dX10_tell_0 rfl rfl ?_
  refine j_geti 1 3 nX10_tell_X10 rfl (by decide) (prs_mem (by decide) ht) (by decide) (by decide) wX10_tell_f38 (Or.inl rfl) rfl dX10_tell_1 ?_
  refine j_bipush (v := 20) 4 dX10_tell_4 (by decide) ?_
  refine j_icmp_lt 6 12 dX10_tell_6 (by decide) (fun _ => ?_) (fun _ => ?_)
  · refine j_aload_n 12 0 dX10_tell_12 rfl rfl ?_
    refine j_getr (c2 := 48) (n2 := t) 13 0 nX10_tell_X10 rfl (by decide) (prs_mem (by decide) ht) (by decide) (by decide) wX10_tell_f9 (Or.inl rfl) rfl rfl (n01 _) dX10_tell_13 ?_
    refine j_aload_n 16 0 dX10_tell_16 rfl rfl ?_
    refine j_geti 17 3 nX10_tell_X10 rfl (by decide) (prs_mem (by decide) ht) (by decide) (by decide) wX10_tell_f38 (Or.inl rfl) rfl dX10_tell_17 ?_
    refine j_iload_n 20 1 dX10_tell_20 rfl rfl ?_
    refine j_iast (c := 48) (n := t) (L := 20) 21 (prs_mem (by decide) ht) (by decide) rfl rfl rfl dX10_tell_21 (j_bs (fun S_1 => ?_))
    refine j_aload_n 22 0 dX10_tell_22 rfl rfl ?_
    refine j_getr (c2 := 49) (n2 := t) 23 1 nX10_tell_X10 rfl (by decide) (prs_mem (by decide) ht) (by decide) (by decide) wX10_tell_f15 (Or.inl rfl) rfl rfl (n01 _) dX10_tell_23 ?_
    refine j_aload_n 26 0 dX10_tell_26 rfl rfl ?_
    refine j_geti 27 3 nX10_tell_X10 rfl (by decide) (prs_mem (by decide) ht) (by decide) (by decide) wX10_tell_f38 (Or.inl rfl) rfl dX10_tell_27 ?_
    refine j_iload_n 30 2 dX10_tell_30 rfl rfl ?_
    refine j_iast (c := 49) (n := t) (L := 20) 31 (prs_mem (by decide) ht) (by decide) rfl rfl rfl dX10_tell_31 (j_bs (fun S_2 => ?_))
    refine j_aload_n 32 0 dX10_tell_32 rfl rfl ?_
    refine j_getr (c2 := 50) (n2 := t) 33 2 nX10_tell_X10 rfl (by decide) (prs_mem (by decide) ht) (by decide) (by decide) wX10_tell_f18 (Or.inl rfl) rfl rfl (n01 _) dX10_tell_33 ?_
    refine j_aload_n 36 0 dX10_tell_36 rfl rfl ?_
    refine j_geti 37 3 nX10_tell_X10 rfl (by decide) (prs_mem (by decide) ht) (by decide) (by decide) wX10_tell_f38 (Or.inl rfl) rfl dX10_tell_37 ?_
    refine j_iload_n 40 3 dX10_tell_40 rfl rfl ?_
    refine j_iast (c := 50) (n := t) (L := 20) 41 (prs_mem (by decide) ht) (by decide) rfl rfl rfl dX10_tell_41 (j_bs (fun S_3 => ?_))
    refine j_aload_n 42 0 dX10_tell_42 rfl rfl ?_
    refine j_dup 43 dX10_tell_43 rfl ?_
    refine j_geti 44 3 nX10_tell_X10 rfl (by decide) (prs_mem (by decide) ht) (by decide) (by decide) wX10_tell_f38 (Or.inl rfl) rfl dX10_tell_44 ?_
    refine j_iconst (v := 1) 47 dX10_tell_47 (by decide) ?_
    refine j_iadd 48 dX10_tell_48 ?_
    refine j_puti 49 3 nX10_tell_X10 rfl (by decide) (prs_mem (by decide) ht) (by decide) (by decide) wX10_tell_f38 (Or.inl rfl) tyX10 tyX10_ok nmX10 rfl (by decide) rfl dX10_tell_49 (j_bs (fun S_4 => ?_))
    refine j_aload_n 52 0 dX10_tell_52 rfl rfl ?_
    refine j_geti 53 3 nX10_tell_X10 rfl (by decide) (prs_mem (by decide) ht) (by decide) (by decide) wX10_tell_f38 (Or.inl rfl) rfl dX10_tell_53 ?_
    exact j_iret 56 rfl dX10_tell_56
  · refine j_bipush (v := (-3)) 9 dX10_tell_9 (by decide) ?_
    exact j_iret 11 rfl dX10_tell_11
set_option maxRecDepth 100000 in
set_option maxHeartbeats 4000000 in
theorem kX10_tell {ad : Nat → Nat → Nat} (S : St) (t : Nat) (p1 : Int32) (p2 : Int32) (p3 : Int32) : ∀ b, fX10_tell S t p1 p2 p3 = some b → ∀ l dC dI cy, CT l dC dI cy ad yX10_tell wsX10_tell 0 0 [.ref (ad 9 t), .int p1, .int p2, .int p3] S (some (.int b.1)) b.2 :=
  fun b hb l dC dI cy => ct_of (l := l) (dC := dC) (dI := dI) (cy := cy) outei (by decide) rfl (Nat.le_of_ble_eq_true rfl) rfl (fun X γ => tX10_tell X γ S t p1 p2 p3) b hb
-- X10_enact
theorem nX10_enact_X9 : ∀ w ∈ u_ws RX9 TX9 4, w ∈ wsX10_enact := by decide +kernel
theorem nX10_enact_X10 : ∀ w ∈ u_ws RX10 TX10 8, w ∈ wsX10_enact := by decide +kernel
theorem wX10_enact_f24 : Cond.fieldLink RX10 24 "TwoTongues$Tongue" "text" "LTwoTongues$Text;" ∈ wsX10_enact := by decide +kernel
theorem wX10_enact_f46 : Cond.fieldLink RX10 46 "TwoTongues$Tongue" "items" "I" ∈ wsX10_enact := by decide +kernel
theorem wX10_enact_f49 : Cond.fieldLink RX10 49 "TwoTongues$Text" "length" "I" ∈ wsX10_enact := by decide +kernel
theorem wX10_enact_f30 : Cond.fieldLink RX10 30 "TwoTongues$Tongue" "inForce" "[LTwoTongues$Item;" ∈ wsX10_enact := by decide +kernel
set_option maxRecDepth 100000 in
set_option maxHeartbeats 4000000 in
theorem tX10_enact_L22 {ad : Nat → Nat → Nat} (X : Ctx) (F : Nat) (t : Nat) (ht : t < 2)  : ∀ (n : Nat) (γ : Nat → Nat) (x1 : Int32) (S : St), JJ X ad γ (RQm X ad 5 118 outei) (fcm outei) 5 118 cX10_enact 2 RX10 wsX10_enact (some .int) (fX10_enact_L22 F t n x1 S) S 22 [(0, .ref (ad 9 t)), (1, .int x1)] [] := by
  intro n
  induction n with
  | zero => intro _ _ _; exact j_none
  | succ n ih =>
    intro γ x1 S
    rw [show fX10_enact_L22 F t (n + 1) x1 S = fX10_enact_b22 F t (fX10_enact_L22 F t n) x1 S from rfl]
    unfold fX10_enact_b22
    refine j_aload_n 22 0 dX10_enact_22 rfl rfl ?_
    refine j_geti 23 6 nX10_enact_X10 rfl (by decide) (prs_mem (by decide) ht) (by decide) (by decide) wX10_enact_f46 (Or.inl rfl) rfl dX10_enact_23 ?_
    refine j_bipush (v := 34) 26 dX10_enact_26 (by decide) ?_
    refine j_icmp_ge 28 73 dX10_enact_28 (by decide) (fun _ => ?_) (fun _ => ?_)
    · refine j_aload_n 73 0 dX10_enact_73 rfl rfl ?_
      refine j_geti 74 6 nX10_enact_X10 rfl (by decide) (prs_mem (by decide) ht) (by decide) (by decide) wX10_enact_f46 (Or.inl rfl) rfl dX10_enact_74 ?_
      exact j_iret 77 rfl dX10_enact_77
    · refine j_iload_n 31 1 dX10_enact_31 rfl rfl ?_
      refine j_aload_n 32 0 dX10_enact_32 rfl rfl ?_
      refine j_getr (c2 := 8) (n2 := t) 33 4 nX10_enact_X10 rfl (by decide) (prs_mem (by decide) ht) (by decide) (by decide) wX10_enact_f24 (Or.inl rfl) rfl rfl (n01 _) dX10_enact_33 ?_
      refine j_geti 36 1 nX10_enact_X9 rfl (by decide) (prs_mem (by decide) ht) (by decide) (by decide) wX10_enact_f49 (Or.inl rfl) rfl dX10_enact_36 ?_
      refine j_icmp_ge 39 73 dX10_enact_39 (by decide) (fun _ => ?_) (fun _ => ?_)
      · refine j_aload_n 73 0 dX10_enact_73 rfl rfl ?_
        refine j_geti 74 6 nX10_enact_X10 rfl (by decide) (prs_mem (by decide) ht) (by decide) (by decide) wX10_enact_f46 (Or.inl rfl) rfl dX10_enact_74 ?_
        exact j_iret 77 rfl dX10_enact_77
      · refine j_aload_n 42 0 dX10_enact_42 rfl rfl ?_
        refine j_getr (c2 := 8) (n2 := t) 43 4 nX10_enact_X10 rfl (by decide) (prs_mem (by decide) ht) (by decide) (by decide) wX10_enact_f24 (Or.inl rfl) rfl rfl (n01 _) dX10_enact_43 ?_
        refine j_iload_n 46 1 dX10_enact_46 rfl rfl ?_
        refine j_aload_n 47 0 dX10_enact_47 rfl rfl ?_
        refine j_getr (c2 := 51) (n2 := t) 48 5 nX10_enact_X10 rfl (by decide) (prs_mem (by decide) ht) (by decide) (by decide) wX10_enact_f30 (Or.inl rfl) rfl rfl (n01 _) dX10_enact_48 ?_
        refine j_aload_n 51 0 dX10_enact_51 rfl rfl ?_
        refine j_geti 52 6 nX10_enact_X10 rfl (by decide) (prs_mem (by decide) ht) (by decide) (by decide) wX10_enact_f46 (Or.inl rfl) rfl dX10_enact_52 ?_
        refine j_aald (c := 51) (n := t) (L := 34) 55 (prs_mem (by decide) ht) (by decide) rfl rfl rfl dX10_enact_55 (fun hi_55 => ?_)
        refine j_callV_ei 56 rfl (by decide) (prs_mem (by decide) ht)  [.int x1, .ref (ad 3 (34 * t + (gI S 9 t 6).toNatClampNeg))] [] gX10_enact_X9_read rfl eX9_read ⟨Nat.le_of_ble_eq_true rfl, Nat.le_of_ble_eq_true rfl⟩ rfl rfl (Nat.le_of_ble_eq_true rfl) dX10_enact_56 (kX9_read F S t x1 (34 * t + (gI S 9 t 6).toNatClampNeg)) (fun b_3 γ => ?_)
        refine j_istore_n (lv2 := [(1, .int b_3.1), (0, .ref (ad 9 t))]) 59 dX10_enact_59 rfl (by decide) rfl ?_
        refine j_aload_n 60 1 dX10_enact_60 rfl rfl ?_
        refine j_dup 61 dX10_enact_61 rfl ?_
        refine j_geti 62 6 nX10_enact_X10 rfl (by decide) (prs_mem (by decide) ht) (by decide) (by decide) wX10_enact_f46 (Or.inl rfl) rfl dX10_enact_62 ?_
        refine j_iconst (v := 1) 65 dX10_enact_65 (by decide) ?_
        refine j_iadd 66 dX10_enact_66 ?_
        refine j_puti 67 6 nX10_enact_X10 rfl (by decide) (prs_mem (by decide) ht) (by decide) (by decide) wX10_enact_f46 (Or.inl rfl) tyX10 tyX10_ok nmX10 rfl (by decide) rfl dX10_enact_67 (j_bs (fun S_4 => ?_))
        refine j_goto 70 22 dX10_enact_70 (by decide) ?_
        refine j_sub [1, 0] rfl ?_
        exact ih _ b_3.1 S_4
set_option maxRecDepth 100000 in
set_option maxHeartbeats 4000000 in
theorem tX10_enact {ad : Nat → Nat → Nat} (X : Ctx) (γ : Nat → Nat) (F : Nat) (S : St) (t : Nat) : JJ X ad γ (RQm X ad 5 118 outei) (fcm outei) 5 118 cX10_enact 2 RX10 wsX10_enact (some .int) (fX10_enact F S t) S 0 [(0, .ref (ad 9 t))] [] := by
  unfold fX10_enact
  refine j_gd (fun ht => ?_)
  have ht := of_decide_eq_true ht
  refine j_aload_n 0 0 dX10_enact_0 rfl rfl ?_
  refine j_getr (c2 := 8) (n2 := t) 1 4 nX10_enact_X10 rfl (by decide) (prs_mem (by decide) ht) (by decide) (by decide) wX10_enact_f24 (Or.inl rfl) rfl rfl (n01 _) dX10_enact_1 ?_
  refine j_callV_ei 4 rfl (by decide) (prs_mem (by decide) ht)  [] [] gX10_enact_X9_firstFault rfl eX9_firstFault ⟨Nat.le_of_ble_eq_true rfl, Nat.le_of_ble_eq_true rfl⟩ rfl rfl (Nat.le_of_ble_eq_true rfl) dX10_enact_4 (kX9_firstFault F S t) (fun b_1 γ => ?_)
  refine j_bipush (v := (-4)) 7 dX10_enact_7 (by decide) ?_
  refine j_icmp_eq 9 15 dX10_enact_9 (by decide) (fun _ => ?_) (fun _ => ?_)
  · refine j_aload_n 15 0 dX10_enact_15 rfl rfl ?_
    refine j_iconst (v := 0) 16 dX10_enact_16 (by decide) ?_
    refine j_puti 17 6 nX10_enact_X10 rfl (by decide) (prs_mem (by decide) ht) (by decide) (by decide) wX10_enact_f46 (Or.inl rfl) tyX10 tyX10_ok nmX10 rfl (by decide) rfl dX10_enact_17 (j_bs (fun S_2 => ?_))
    refine j_iconst (v := 0) 20 dX10_enact_20 (by decide) ?_
    refine j_istore_n (lv2 := [(1, .int 0), (0, .ref (ad 9 t))]) 21 dX10_enact_21 rfl (by decide) rfl ?_
    refine j_sub [1, 0] rfl ?_
    exact tX10_enact_L22 X F t ht F _ 0 S_2
  · refine j_bipush (v := (-2)) 12 dX10_enact_12 (by decide) ?_
    exact j_iret 14 rfl dX10_enact_14
set_option maxRecDepth 100000 in
set_option maxHeartbeats 4000000 in
theorem kX10_enact {ad : Nat → Nat → Nat} (F : Nat) (S : St) (t : Nat) : ∀ b, fX10_enact F S t = some b → ∀ l dC dI cy, CT l dC dI cy ad yX10_enact wsX10_enact 5 118 [.ref (ad 9 t)] S (some (.int b.1)) b.2 :=
  fun b hb l dC dI cy => ct_of (l := l) (dC := dC) (dI := dI) (cy := cy) outei (by decide) rfl (Nat.le_of_ble_eq_true rfl) rfl (fun X γ => tX10_enact X γ F S t) b hb
