-- X12_wronged
theorem nX12_wronged_X12 : ∀ w ∈ u_ws RX12 TX12 40, w ∈ wsX12_wronged := by decide +kernel
theorem wX12_wronged_f217 : Cond.fieldLink RX12 217 "TwoTonguesModel" "takingMany" "I" ∈ wsX12_wronged := by decide +kernel
set_option maxRecDepth 100000 in
set_option maxHeartbeats 4000000 in
theorem tX12_wronged {ad : Nat → Nat → Nat} (X : Ctx) (γ : Nat → Nat) (F : Nat) (S : St) (p1 : Int32) : JJ X ad γ (RQm X ad 2 51 (outpi S)) (fcm (outpi S)) 2 51 cX12_wronged 2 RX12 wsX12_wronged (some .int) (fX12_wronged F S p1) S 0 [(0, .ref (ad 11 0)), (1, .int p1)] [] := by
  unfold fX12_wronged
  refine j_iload_n 0 1 dX12_wronged_0 rfl rfl ?_
  refine j_i2l 1 dX12_wronged_1 ?_
  refine j_lconst (v := 0) 2 dX12_wronged_2 (by decide) ?_
  refine j_aload_n 3 0 dX12_wronged_3 rfl rfl ?_
  refine j_geti 4 19 nX12_wronged_X12 rfl (by decide) (prs_mem (by decide) (by decide)) (by decide) (by decide) wX12_wronged_f217 (Or.inl rfl) rfl dX12_wronged_4 ?_
  refine j_iconst (v := 1) 7 dX12_wronged_7 (by decide) ?_
  refine j_isub 8 dX12_wronged_8 ?_
  refine j_i2l 9 dX12_wronged_9 ?_
  refine j_callS_pi 10  [.long p1.toInt64, .long 0, .long ((gI S 11 0 19) - 1).toInt64] [] gX12_wronged_X12_in rfl eX12_in ⟨Nat.le_of_ble_eq_true rfl, Nat.le_of_ble_eq_true rfl⟩ rfl rfl (Nat.le_of_ble_eq_true rfl) dX12_wronged_10 (kX12_in S p1.toInt64 0 ((gI S 11 0 19) - 1).toInt64) (fun b_1 γ => ?_)
  refine j_if_eq 13 24 dX12_wronged_13 (by decide) (fun _ => ?_) (fun _ => ?_)
  · refine j_iconst (v := (-1)) 24 dX12_wronged_24 (by decide) ?_
    exact j_iret 25 rfl dX12_wronged_25
  · refine j_aload_n 16 0 dX12_wronged_16 rfl rfl ?_
    refine j_iload_n 17 1 dX12_wronged_17 rfl rfl ?_
    refine j_callV_pi 18 rfl (by decide) (prs_mem (by decide) (by decide))  [.int p1] [] gX12_wronged_X12_wrongedBy rfl eX12_wrongedBy ⟨Nat.le_of_ble_eq_true rfl, Nat.le_of_ble_eq_true rfl⟩ rfl rfl (Nat.le_of_ble_eq_true rfl) dX12_wronged_18 (kX12_wrongedBy F S p1) (fun b_2 γ => ?_)
    refine j_goto 21 25 dX12_wronged_21 (by decide) ?_
    exact j_iret 25 rfl dX12_wronged_25
set_option maxRecDepth 100000 in
set_option maxHeartbeats 4000000 in
theorem kX12_wronged {ad : Nat → Nat → Nat} (F : Nat) (S : St) (p1 : Int32) : ∀ b, fX12_wronged F S p1 = some b → ∀ l dC dI cy, CT l dC dI cy ad yX12_wronged wsX12_wronged 2 51 [.ref (ad 11 0), .int p1] S (some (.int b)) S :=
  fun b hb l dC dI cy => ct_of (l := l) (dC := dC) (dI := dI) (cy := cy) (outpi S) (by decide) rfl (Nat.le_of_ble_eq_true rfl) rfl (fun X γ => tX12_wronged X γ F S p1) b hb
-- X12_isHeir
theorem nX12_isHeir_X12 : ∀ w ∈ u_ws RX12 TX12 40, w ∈ wsX12_isHeir := by decide +kernel
theorem wX12_isHeir_f37 : Cond.fieldLink RX12 37 "TwoTonguesModel" "founds" "[I" ∈ wsX12_isHeir := by decide +kernel
theorem wX12_isHeir_f28 : Cond.fieldLink RX12 28 "TwoTonguesModel" "born" "[I" ∈ wsX12_isHeir := by decide +kernel
theorem wX12_isHeir_f34 : Cond.fieldLink RX12 34 "TwoTonguesModel" "dies" "[I" ∈ wsX12_isHeir := by decide +kernel
set_option maxRecDepth 100000 in
set_option maxHeartbeats 4000000 in
theorem tX12_isHeir {ad : Nat → Nat → Nat} (X : Ctx) (γ : Nat → Nat) (S : St) (p1 : Int32) (p2 : Int32) (p3 : Int32) : JJ X ad γ (RQm X ad 1 21 (outpi S)) (fcm (outpi S)) 1 21 cX12_isHeir 4 RX12 wsX12_isHeir (some .boolean) (fX12_isHeir S p1 p2 p3) S 0 [(0, .ref (ad 11 0)), (1, .int p1), (2, .int p2), (3, .int p3)] [] := by
  unfold fX12_isHeir
  refine j_aload_n 0 0 dX12_isHeir_0 rfl rfl ?_
  refine j_getr (c2 := 62) (n2 := 0) 1 10 nX12_isHeir_X12 rfl (by decide) (prs_mem (by decide) (by decide)) (by decide) (by decide) wX12_isHeir_f37 (Or.inl rfl) rfl rfl rfl dX12_isHeir_1 ?_
  refine j_iload_n 4 1 dX12_isHeir_4 rfl rfl ?_
  refine j_iald (c := 62) (n := 0) (L := 30) 5 (prs_mem (by decide) (by decide)) (by decide) rfl rfl rfl dX12_isHeir_5 ?_
  refine j_iload_n 6 2 dX12_isHeir_6 rfl rfl ?_
  refine j_callS_pi 7  [.int (gA S 62 0 p1.toNatClampNeg), .int p2] [] gX12_isHeir_X12_has rfl eX12_has ⟨Nat.le_of_ble_eq_true rfl, Nat.le_of_ble_eq_true rfl⟩ rfl rfl (Nat.le_of_ble_eq_true rfl) dX12_isHeir_7 (kX12_has S (gA S 62 0 p1.toNatClampNeg) p2) (fun b_1 γ => ?_)
  refine j_if_eq 10 37 dX12_isHeir_10 (by decide) (fun _ => ?_) (fun _ => ?_)
  · refine j_iconst (v := 0) 37 dX12_isHeir_37 (by decide) ?_
    exact j_zret 38 (by decide) rfl dX12_isHeir_38
  · refine j_aload_n 13 0 dX12_isHeir_13 rfl rfl ?_
    refine j_getr (c2 := 59) (n2 := 0) 14 7 nX12_isHeir_X12 rfl (by decide) (prs_mem (by decide) (by decide)) (by decide) (by decide) wX12_isHeir_f28 (Or.inl rfl) rfl rfl rfl dX12_isHeir_14 ?_
    refine j_iload_n 17 1 dX12_isHeir_17 rfl rfl ?_
    refine j_iald (c := 59) (n := 0) (L := 30) 18 (prs_mem (by decide) (by decide)) (by decide) rfl rfl rfl dX12_isHeir_18 ?_
    refine j_iload_n 19 3 dX12_isHeir_19 rfl rfl ?_
    refine j_icmp_gt 20 37 dX12_isHeir_20 (by decide) (fun _ => ?_) (fun _ => ?_)
    · refine j_iconst (v := 0) 37 dX12_isHeir_37 (by decide) ?_
      exact j_zret 38 (by decide) rfl dX12_isHeir_38
    · refine j_aload_n 23 0 dX12_isHeir_23 rfl rfl ?_
      refine j_getr (c2 := 61) (n2 := 0) 24 9 nX12_isHeir_X12 rfl (by decide) (prs_mem (by decide) (by decide)) (by decide) (by decide) wX12_isHeir_f34 (Or.inl rfl) rfl rfl rfl dX12_isHeir_24 ?_
      refine j_iload_n 27 1 dX12_isHeir_27 rfl rfl ?_
      refine j_iald (c := 61) (n := 0) (L := 30) 28 (prs_mem (by decide) (by decide)) (by decide) rfl rfl rfl dX12_isHeir_28 ?_
      refine j_iload_n 29 3 dX12_isHeir_29 rfl rfl ?_
      refine j_icmp_le 30 37 dX12_isHeir_30 (by decide) (fun _ => ?_) (fun _ => ?_)
      · refine j_iconst (v := 0) 37 dX12_isHeir_37 (by decide) ?_
        exact j_zret 38 (by decide) rfl dX12_isHeir_38
      · refine j_iconst (v := 1) 33 dX12_isHeir_33 (by decide) ?_
        refine j_goto 34 38 dX12_isHeir_34 (by decide) ?_
        exact j_zret 38 (by decide) rfl dX12_isHeir_38
set_option maxRecDepth 100000 in
set_option maxHeartbeats 4000000 in
theorem kX12_isHeir {ad : Nat → Nat → Nat} (S : St) (p1 : Int32) (p2 : Int32) (p3 : Int32) : ∀ b, fX12_isHeir S p1 p2 p3 = some b → ∀ l dC dI cy, CT l dC dI cy ad yX12_isHeir wsX12_isHeir 1 21 [.ref (ad 11 0), .int p1, .int p2, .int p3] S (some (.int b)) S :=
  fun b hb l dC dI cy => ct_of (l := l) (dC := dC) (dI := dI) (cy := cy) (outpi S) (by decide) rfl (Nat.le_of_ble_eq_true rfl) rfl (fun X γ => tX12_isHeir X γ S p1 p2 p3) b hb
-- X12_beginShares
theorem nX12_beginShares_X12 : ∀ w ∈ u_ws RX12 TX12 40, w ∈ wsX12_beginShares := by decide +kernel
theorem wX12_beginShares_f223 : Cond.fieldLink RX12 223 "TwoTonguesModel" "among" "I" ∈ wsX12_beginShares := by decide +kernel
theorem wX12_beginShares_f175 : Cond.fieldLink RX12 175 "TwoTonguesModel" "personMany" "I" ∈ wsX12_beginShares := by decide +kernel
theorem wX12_beginShares_c229 : Cond.constantLong RX12 229 (1000000000000) ∈ wsX12_beginShares := by decide +kernel
theorem wX12_beginShares_f231 : Cond.fieldLink RX12 231 "TwoTonguesModel" "lapsed" "J" ∈ wsX12_beginShares := by decide +kernel
theorem wX12_beginShares_f79 : Cond.fieldLink RX12 79 "TwoTonguesModel" "parts" "[J" ∈ wsX12_beginShares := by decide +kernel
set_option maxRecDepth 100000 in
set_option maxHeartbeats 4000000 in
theorem tX12_beginShares_j35 {ad : Nat → Nat → Nat} (X : Ctx) (γ : Nat → Nat) (F : Nat) (S : St) (x1 : Int32) (x2 : Int32) (x3 : Int32) (s0 : Int32) (s1 : Int32) (rec : Int32 → St → Option St)  (ih : ∀ (γ : Nat → Nat) (x3 : Int32) (S : St), JJ X ad γ (RQm X ad 2 44 outev) (fcm outev) 2 44 cX12_beginShares 4 RX12 wsX12_beginShares none (rec x3 S) S 7 [(0, .ref (ad 11 0)), (1, .int x1), (2, .int x2), (3, .int x3)] []) : JJ X ad γ (RQm X ad 2 44 outev) (fcm outev) 2 44 cX12_beginShares 4 RX12 wsX12_beginShares none (fX12_beginShares_j35 F S x1 x2 x3 s0 s1 rec) S 35 [(0, .ref (ad 11 0)), (1, .int x1), (2, .int x2), (3, .int x3)] [.int s0, .int s1, .ref (ad 11 0)] := by
  unfold fX12_beginShares_j35
  refine j_iadd 35 dX12_beginShares_35 ?_
  refine j_puti 36 34 nX12_beginShares_X12 rfl (by decide) (prs_mem (by decide) (by decide)) (by decide) (by decide) wX12_beginShares_f223 (Or.inl rfl) tyX12 tyX12_ok nmX12 rfl (by decide) rfl dX12_beginShares_36 (j_bs (fun S_3 => ?_))
  refine j_iinc (v := x3 + 1) (lv2 := [(3, .int (x3 + 1)), (0, .ref (ad 11 0)), (1, .int x1), (2, .int x2)]) 39 3 dX12_beginShares_39 rfl rfl (by decide) rfl ?_
  refine j_goto 42 7 dX12_beginShares_42 (by decide) ?_
  refine j_sub [1, 2, 3, 0] rfl ?_
  exact ih _ (x3 + 1) S_3
set_option maxRecDepth 100000 in
set_option maxHeartbeats 4000000 in
theorem tX12_beginShares_L7 {ad : Nat → Nat → Nat} (X : Ctx) (F : Nat) (x1 : Int32) (x2 : Int32) (k45 : St → Option St)  (hk45 : ∀ (γ : Nat → Nat) (S : St), JJ X ad γ (RQm X ad 2 44 outev) (fcm outev) 2 44 cX12_beginShares 4 RX12 wsX12_beginShares none (k45 S) S 45 [(0, .ref (ad 11 0)), (1, .int x1), (2, .int x2)] []) : ∀ (n : Nat) (γ : Nat → Nat) (x3 : Int32) (S : St), JJ X ad γ (RQm X ad 2 44 outev) (fcm outev) 2 44 cX12_beginShares 4 RX12 wsX12_beginShares none (fX12_beginShares_L7 F x1 x2 k45 n x3 S) S 7 [(0, .ref (ad 11 0)), (1, .int x1), (2, .int x2), (3, .int x3)] [] := by
  intro n
  induction n with
  | zero => intro _ _ _; exact j_none
  | succ n ih =>
    intro γ x3 S
    rw [show fX12_beginShares_L7 F x1 x2 k45 (n + 1) x3 S = fX12_beginShares_b7 F x1 x2 k45 (fX12_beginShares_L7 F x1 x2 k45 n) x3 S from rfl]
    unfold fX12_beginShares_b7
    refine j_iload_n 7 3 dX12_beginShares_7 rfl rfl ?_
    refine j_aload_n 8 0 dX12_beginShares_8 rfl rfl ?_
    refine j_geti 9 6 nX12_beginShares_X12 rfl (by decide) (prs_mem (by decide) (by decide)) (by decide) (by decide) wX12_beginShares_f175 (Or.inl rfl) rfl dX12_beginShares_9 ?_
    refine j_icmp_ge 12 45 dX12_beginShares_12 (by decide) (fun _ => ?_) (fun _ => ?_)
    · refine j_sub [0, 1, 2] rfl ?_
      exact hk45 _ S
    · refine j_aload_n 15 0 dX12_beginShares_15 rfl rfl ?_
      refine j_dup 16 dX12_beginShares_16 rfl ?_
      refine j_geti 17 34 nX12_beginShares_X12 rfl (by decide) (prs_mem (by decide) (by decide)) (by decide) (by decide) wX12_beginShares_f223 (Or.inl rfl) rfl dX12_beginShares_17 ?_
      refine j_aload_n 20 0 dX12_beginShares_20 rfl rfl ?_
      refine j_iload_n 21 3 dX12_beginShares_21 rfl rfl ?_
      refine j_iload_n 22 1 dX12_beginShares_22 rfl rfl ?_
      refine j_iload_n 23 2 dX12_beginShares_23 rfl rfl ?_
      refine j_callV_pi 24 rfl (by decide) (prs_mem (by decide) (by decide))  [.int x3, .int x1, .int x2] [.int (gI S 11 0 34), .ref (ad 11 0)] gX12_beginShares_X12_isHeir rfl eX12_isHeir ⟨Nat.le_of_ble_eq_true rfl, Nat.le_of_ble_eq_true rfl⟩ rfl rfl (Nat.le_of_ble_eq_true rfl) dX12_beginShares_24 (kX12_isHeir S x3 x1 x2) (fun b_2 γ => ?_)
      refine j_if_eq 27 34 dX12_beginShares_27 (by decide) (fun _ => ?_) (fun _ => ?_)
      · refine j_iconst (v := 0) 34 dX12_beginShares_34 (by decide) ?_
        exact tX12_beginShares_j35 X _ F S x1 x2 x3 0 (gI S 11 0 34) _ ih
      · refine j_iconst (v := 1) 30 dX12_beginShares_30 (by decide) ?_
        refine j_goto 31 35 dX12_beginShares_31 (by decide) ?_
        exact tX12_beginShares_j35 X _ F S x1 x2 x3 1 (gI S 11 0 34) _ ih
set_option maxRecDepth 100000 in
set_option maxHeartbeats 4000000 in
theorem tX12_beginShares_j90 {ad : Nat → Nat → Nat} (X : Ctx) (γ : Nat → Nat) (F : Nat) (S : St) (x1 : Int32) (x2 : Int32) (x3 : Int32) (s0 : Int64) (s1 : Int32) (rec : Int32 → St → Option St)  (ih : ∀ (γ : Nat → Nat) (x3 : Int32) (S : St), JJ X ad γ (RQm X ad 2 44 outev) (fcm outev) 2 44 cX12_beginShares 4 RX12 wsX12_beginShares none (rec x3 S) S 54 [(0, .ref (ad 11 0)), (1, .int x1), (2, .int x2), (3, .int x3)] []) : JJ X ad γ (RQm X ad 2 44 outev) (fcm outev) 2 44 cX12_beginShares 4 RX12 wsX12_beginShares none (fX12_beginShares_j90 F S x1 x2 x3 s0 s1 rec) S 90 [(0, .ref (ad 11 0)), (1, .int x1), (2, .int x2), (3, .int x3)] [.long s0, .int s1, .ref (ad 76 0)] := by
  unfold fX12_beginShares_j90
  refine j_last (c := 76) (n := 0) (L := 30) 90 (prs_mem (by decide) (by decide)) (by decide) rfl rfl rfl dX12_beginShares_90 (j_bs (fun S_7 => ?_))
  refine j_aload_n 91 0 dX12_beginShares_91 rfl rfl ?_
  refine j_dup 92 dX12_beginShares_92 rfl ?_
  refine j_getl 93 33 nX12_beginShares_X12 rfl (by decide) (prs_mem (by decide) (by decide)) (by decide) (by decide) wX12_beginShares_f231 (Or.inl rfl) rfl dX12_beginShares_93 ?_
  refine j_aload_n 96 0 dX12_beginShares_96 rfl rfl ?_
  refine j_getr (c2 := 76) (n2 := 0) 97 32 nX12_beginShares_X12 rfl (by decide) (prs_mem (by decide) (by decide)) (by decide) (by decide) wX12_beginShares_f79 (Or.inl rfl) rfl rfl rfl dX12_beginShares_97 ?_
  refine j_iload_n 100 3 dX12_beginShares_100 rfl rfl ?_
  refine j_lald (c := 76) (n := 0) (L := 30) 101 (prs_mem (by decide) (by decide)) (by decide) rfl rfl rfl dX12_beginShares_101 ?_
  refine j_lsub 102 dX12_beginShares_102 ?_
  refine j_putl 103 33 nX12_beginShares_X12 rfl (by decide) (prs_mem (by decide) (by decide)) (by decide) (by decide) wX12_beginShares_f231 (Or.inl rfl) tyX12 tyX12_ok nmX12 rfl (by decide) rfl dX12_beginShares_103 (j_bs (fun S_8 => ?_))
  refine j_iinc (v := x3 + 1) (lv2 := [(3, .int (x3 + 1)), (0, .ref (ad 11 0)), (1, .int x1), (2, .int x2)]) 106 3 dX12_beginShares_106 rfl rfl (by decide) rfl ?_
  refine j_goto 109 54 dX12_beginShares_109 (by decide) ?_
  refine j_sub [1, 2, 3, 0] rfl ?_
  exact ih _ (x3 + 1) S_8
set_option maxRecDepth 100000 in
set_option maxHeartbeats 4000000 in
theorem tX12_beginShares_L54 {ad : Nat → Nat → Nat} (X : Ctx) (F : Nat) (x1 : Int32) (x2 : Int32)   : ∀ (n : Nat) (γ : Nat → Nat) (x3 : Int32) (S : St), JJ X ad γ (RQm X ad 2 44 outev) (fcm outev) 2 44 cX12_beginShares 4 RX12 wsX12_beginShares none (fX12_beginShares_L54 F x1 x2 n x3 S) S 54 [(0, .ref (ad 11 0)), (1, .int x1), (2, .int x2), (3, .int x3)] [] := by
  intro n
  induction n with
  | zero => intro _ _ _; exact j_none
  | succ n ih =>
    intro γ x3 S
    rw [show fX12_beginShares_L54 F x1 x2 (n + 1) x3 S = fX12_beginShares_b54 F x1 x2 (fX12_beginShares_L54 F x1 x2 n) x3 S from rfl]
    unfold fX12_beginShares_b54
    refine j_iload_n 54 3 dX12_beginShares_54 rfl rfl ?_
    refine j_aload_n 55 0 dX12_beginShares_55 rfl rfl ?_
    refine j_geti 56 6 nX12_beginShares_X12 rfl (by decide) (prs_mem (by decide) (by decide)) (by decide) (by decide) wX12_beginShares_f175 (Or.inl rfl) rfl dX12_beginShares_56 ?_
    refine j_icmp_ge 59 112 dX12_beginShares_59 (by decide) (fun _ => ?_) (fun _ => ?_)
    · exact j_vret 112 rfl dX12_beginShares_112
    · refine j_aload_n 62 0 dX12_beginShares_62 rfl rfl ?_
      refine j_getr (c2 := 76) (n2 := 0) 63 32 nX12_beginShares_X12 rfl (by decide) (prs_mem (by decide) (by decide)) (by decide) (by decide) wX12_beginShares_f79 (Or.inl rfl) rfl rfl rfl dX12_beginShares_63 ?_
      refine j_iload_n 66 3 dX12_beginShares_66 rfl rfl ?_
      refine j_aload_n 67 0 dX12_beginShares_67 rfl rfl ?_
      refine j_iload_n 68 3 dX12_beginShares_68 rfl rfl ?_
      refine j_iload_n 69 1 dX12_beginShares_69 rfl rfl ?_
      refine j_iload_n 70 2 dX12_beginShares_70 rfl rfl ?_
      refine j_callV_pi 71 rfl (by decide) (prs_mem (by decide) (by decide))  [.int x3, .int x1, .int x2] [.int x3, .ref (ad 76 0)] gX12_beginShares_X12_isHeir rfl eX12_isHeir ⟨Nat.le_of_ble_eq_true rfl, Nat.le_of_ble_eq_true rfl⟩ rfl rfl (Nat.le_of_ble_eq_true rfl) dX12_beginShares_71 (kX12_isHeir S x3 x1 x2) (fun b_6 γ => ?_)
      refine j_if_eq 74 89 dX12_beginShares_74 (by decide) (fun _ => ?_) (fun _ => ?_)
      · refine j_lconst (v := 0) 89 dX12_beginShares_89 (by decide) ?_
        exact tX12_beginShares_j90 X _ F S x1 x2 x3 0 x3 _ ih
      · refine j_ldc2 (v := 1000000000000) 77 dX12_beginShares_77 wX12_beginShares_c229 ?_
        refine j_aload_n 80 0 dX12_beginShares_80 rfl rfl ?_
        refine j_geti 81 34 nX12_beginShares_X12 rfl (by decide) (prs_mem (by decide) (by decide)) (by decide) (by decide) wX12_beginShares_f223 (Or.inl rfl) rfl dX12_beginShares_81 ?_
        refine j_i2l 84 dX12_beginShares_84 ?_
        refine j_ldiv 85 dX12_beginShares_85 ?_
        refine j_goto 86 90 dX12_beginShares_86 (by decide) ?_
        exact tX12_beginShares_j90 X _ F S x1 x2 x3 (1000000000000 / (gI S 11 0 34).toInt64) x3 _ ih
set_option maxRecDepth 100000 in
set_option maxHeartbeats 4000000 in
theorem tX12_beginShares {ad : Nat → Nat → Nat} (X : Ctx) (γ : Nat → Nat) (F : Nat) (S : St) (p1 : Int32) (p2 : Int32) : JJ X ad γ (RQm X ad 2 44 outev) (fcm outev) 2 44 cX12_beginShares 4 RX12 wsX12_beginShares none (fX12_beginShares F S p1 p2) S 0 [(0, .ref (ad 11 0)), (1, .int p1), (2, .int p2)] [] := by
  unfold fX12_beginShares
  refine j_aload_n 0 0 dX12_beginShares_0 rfl rfl ?_
  refine j_iconst (v := 0) 1 dX12_beginShares_1 (by decide) ?_
  refine j_puti 2 34 nX12_beginShares_X12 rfl (by decide) (prs_mem (by decide) (by decide)) (by decide) (by decide) wX12_beginShares_f223 (Or.inl rfl) tyX12 tyX12_ok nmX12 rfl (by decide) rfl dX12_beginShares_2 (j_bs (fun S_1 => ?_))
  refine j_iconst (v := 0) 5 dX12_beginShares_5 (by decide) ?_
  refine j_istore_n (lv2 := [(3, .int 0), (0, .ref (ad 11 0)), (1, .int p1), (2, .int p2)]) 6 dX12_beginShares_6 rfl (by decide) rfl ?_
  refine j_sub [1, 2, 3, 0] rfl ?_
  refine tX12_beginShares_L7 X F p1 p2 _ (fun γ S_4 => ?_) F _ 0 S_1
  refine j_aload_n 45 0 dX12_beginShares_45 rfl rfl ?_
  refine j_ldc2 (v := 1000000000000) 46 dX12_beginShares_46 wX12_beginShares_c229 ?_
  refine j_putl 49 33 nX12_beginShares_X12 rfl (by decide) (prs_mem (by decide) (by decide)) (by decide) (by decide) wX12_beginShares_f231 (Or.inl rfl) tyX12 tyX12_ok nmX12 rfl (by decide) rfl dX12_beginShares_49 (j_bs (fun S_5 => ?_))
  refine j_iconst (v := 0) 52 dX12_beginShares_52 (by decide) ?_
  refine j_istore_n (lv2 := [(3, .int 0), (0, .ref (ad 11 0)), (1, .int p1), (2, .int p2)]) 53 dX12_beginShares_53 rfl (by decide) rfl ?_
  refine j_sub [1, 2, 3, 0] rfl ?_
  exact tX12_beginShares_L54 X F p1 p2 F _ 0 S_5
set_option maxRecDepth 100000 in
set_option maxHeartbeats 4000000 in
theorem kX12_beginShares {ad : Nat → Nat → Nat} (F : Nat) (S : St) (p1 : Int32) (p2 : Int32) : ∀ b, fX12_beginShares F S p1 p2 = some b → ∀ l dC dI cy, CT l dC dI cy ad yX12_beginShares wsX12_beginShares 2 44 [.ref (ad 11 0), .int p1, .int p2] S (none) b :=
  fun b hb l dC dI cy => ct_of (l := l) (dC := dC) (dI := dI) (cy := cy) outev (by decide) rfl (Nat.le_of_ble_eq_true rfl) rfl (fun X γ => tX12_beginShares X γ F S p1 p2) b hb
-- X12_isChild
theorem nX12_isChild_X12 : ∀ w ∈ u_ws RX12 TX12 40, w ∈ wsX12_isChild := by decide +kernel
theorem wX12_isChild_f31 : Cond.fieldLink RX12 31 "TwoTonguesModel" "parents" "[I" ∈ wsX12_isChild := by decide +kernel
theorem wX12_isChild_f28 : Cond.fieldLink RX12 28 "TwoTonguesModel" "born" "[I" ∈ wsX12_isChild := by decide +kernel
set_option maxRecDepth 100000 in
set_option maxHeartbeats 4000000 in
theorem tX12_isChild_j26 {ad : Nat → Nat → Nat} (X : Ctx) (γ : Nat → Nat) (S : St) (x1 : Int32) (x3 : Int32)   : JJ X ad γ (RQm X ad 0 0 (outpi S)) (fcm (outpi S)) 0 0 cX12_isChild 4 RX12 wsX12_isChild (some .boolean) (fX12_isChild_j26 S x1 x3) S 26 [(0, .ref (ad 11 0)), (1, .int x1), (3, .int x3)] [] := by
  unfold fX12_isChild_j26
  refine j_aload_n 26 0 dX12_isChild_26 rfl rfl ?_
  refine j_getr (c2 := 59) (n2 := 0) 27 7 nX12_isChild_X12 rfl (by decide) (prs_mem (by decide) (by decide)) (by decide) (by decide) wX12_isChild_f28 (Or.inl rfl) rfl rfl rfl dX12_isChild_27 ?_
  refine j_iload_n 30 1 dX12_isChild_30 rfl rfl ?_
  refine j_iald (c := 59) (n := 0) (L := 30) 31 (prs_mem (by decide) (by decide)) (by decide) rfl rfl rfl dX12_isChild_31 ?_
  refine j_iload_n 32 2 dX12_isChild_32 rfl rfl ?_
  refine j_icmp_gt 33 40 dX12_isChild_33 (by decide) (fun _ => ?_) (fun _ => ?_)
  · refine j_iconst (v := 0) 40 dX12_isChild_40 (by decide) ?_
    exact j_zret 41 (by decide) rfl dX12_isChild_41
  · refine j_iconst (v := 1) 36 dX12_isChild_36 (by decide) ?_
    refine j_goto 37 41 dX12_isChild_37 (by decide) ?_
    exact j_zret 41 (by decide) rfl dX12_isChild_41
set_option maxRecDepth 100000 in
set_option maxHeartbeats 4000000 in
theorem tX12_isChild {ad : Nat → Nat → Nat} (X : Ctx) (γ : Nat → Nat) (S : St) (p1 : Int32) (p2 : Int32) (p3 : Int32) : JJ X ad γ (RQm X ad 0 0 (outpi S)) (fcm (outpi S)) 0 0 cX12_isChild 4 RX12 wsX12_isChild (some .boolean) (fX12_isChild S p1 p2 p3) S 0 [(0, .ref (ad 11 0)), (1, .int p1), (2, .int p2), (3, .int p3)] [] := by
  unfold fX12_isChild
  refine j_aload_n 0 0 dX12_isChild_0 rfl rfl ?_
  refine j_getr (c2 := 60) (n2 := 0) 1 8 nX12_isChild_X12 rfl (by decide) (prs_mem (by decide) (by decide)) (by decide) (by decide) wX12_isChild_f31 (Or.inl rfl) rfl rfl rfl dX12_isChild_1 ?_
  refine j_iconst (v := 2) 4 dX12_isChild_4 (by decide) ?_
  refine j_iload_n 5 1 dX12_isChild_5 rfl rfl ?_
  refine j_imul 6 dX12_isChild_6 ?_
  refine j_iald (c := 60) (n := 0) (L := 60) 7 (prs_mem (by decide) (by decide)) (by decide) rfl rfl rfl dX12_isChild_7 ?_
  refine j_iload_n 8 2 dX12_isChild_8 rfl rfl ?_
  refine j_icmp_eq 9 26 dX12_isChild_9 (by decide) (fun _ => ?_) (fun _ => ?_)
  · refine j_sub [0, 1, 3] rfl ?_
    exact tX12_isChild_j26 X _ S p1 p3
  · refine j_aload_n 12 0 dX12_isChild_12 rfl rfl ?_
    refine j_getr (c2 := 60) (n2 := 0) 13 8 nX12_isChild_X12 rfl (by decide) (prs_mem (by decide) (by decide)) (by decide) (by decide) wX12_isChild_f31 (Or.inl rfl) rfl rfl rfl dX12_isChild_13 ?_
    refine j_iconst (v := 2) 16 dX12_isChild_16 (by decide) ?_
    refine j_iload_n 17 1 dX12_isChild_17 rfl rfl ?_
    refine j_imul 18 dX12_isChild_18 ?_
    refine j_iconst (v := 1) 19 dX12_isChild_19 (by decide) ?_
    refine j_iadd 20 dX12_isChild_20 ?_
    refine j_iald (c := 60) (n := 0) (L := 60) 21 (prs_mem (by decide) (by decide)) (by decide) rfl rfl rfl dX12_isChild_21 ?_
    refine j_iload_n 22 2 dX12_isChild_22 rfl rfl ?_
    refine j_icmp_ne 23 40 dX12_isChild_23 (by decide) (fun _ => ?_) (fun _ => ?_)
    · refine j_iconst (v := 0) 40 dX12_isChild_40 (by decide) ?_
      exact j_zret 41 (by decide) rfl dX12_isChild_41
    · refine j_sub [0, 1, 3] rfl ?_
      exact tX12_isChild_j26 X _ S p1 p3
set_option maxRecDepth 100000 in
set_option maxHeartbeats 4000000 in
theorem kX12_isChild {ad : Nat → Nat → Nat} (S : St) (p1 : Int32) (p2 : Int32) (p3 : Int32) : ∀ b, fX12_isChild S p1 p2 p3 = some b → ∀ l dC dI cy, CT l dC dI cy ad yX12_isChild wsX12_isChild 0 0 [.ref (ad 11 0), .int p1, .int p2, .int p3] S (some (.int b)) S :=
  fun b hb l dC dI cy => ct_of (l := l) (dC := dC) (dI := dI) (cy := cy) (outpi S) (by decide) rfl (Nat.le_of_ble_eq_true rfl) rfl (fun X γ => tX12_isChild X γ S p1 p2 p3) b hb
-- X12_handOn
theorem nX12_handOn_X12 : ∀ w ∈ u_ws RX12 TX12 40, w ∈ wsX12_handOn := by decide +kernel
theorem wX12_handOn_f83 : Cond.fieldLink RX12 83 "TwoTonguesModel" "dueOf" "[I" ∈ wsX12_handOn := by decide +kernel
theorem wX12_handOn_f86 : Cond.fieldLink RX12 86 "TwoTonguesModel" "due" "[J" ∈ wsX12_handOn := by decide +kernel
theorem wX12_handOn_f79 : Cond.fieldLink RX12 79 "TwoTonguesModel" "parts" "[J" ∈ wsX12_handOn := by decide +kernel
theorem wX12_handOn_f235 : Cond.fieldLink RX12 235 "TwoTonguesModel" "dueMany" "I" ∈ wsX12_handOn := by decide +kernel
theorem wX12_handOn_f175 : Cond.fieldLink RX12 175 "TwoTonguesModel" "personMany" "I" ∈ wsX12_handOn := by decide +kernel
theorem wX12_handOn_f231 : Cond.fieldLink RX12 231 "TwoTonguesModel" "lapsed" "J" ∈ wsX12_handOn := by decide +kernel
theorem wX12_handOn_f34 : Cond.fieldLink RX12 34 "TwoTonguesModel" "dies" "[I" ∈ wsX12_handOn := by decide +kernel
set_option maxRecDepth 100000 in
set_option maxHeartbeats 4000000 in
theorem tX12_handOn_L75 {ad : Nat → Nat → Nat} (X : Ctx) (F : Nat) (S : St) (x2 : Int32) (x3 : Int32) (y4 : Int64) (k111 : Int32 → Option St)  (hk111 : ∀ (γ : Nat → Nat) (x6 : Int32), JJ X ad γ (RQm X ad 1 23 outev) (fcm outev) 1 23 cX12_handOn 10 RX12 wsX12_handOn none (k111 x6) S 111 [(0, .ref (ad 11 0)), (2, .int x2), (3, .int x3), (4, .long y4), (6, .int x6)] []) : ∀ (n : Nat) (γ : Nat → Nat) (x6 : Int32) (x7 : Int32), JJ X ad γ (RQm X ad 1 23 outev) (fcm outev) 1 23 cX12_handOn 10 RX12 wsX12_handOn none (fX12_handOn_L75 F S x2 x3 y4 k111 n x6 x7) S 75 [(0, .ref (ad 11 0)), (2, .int x2), (3, .int x3), (4, .long y4), (6, .int x6), (7, .int x7)] [] := by
  intro n
  induction n with
  | zero => intro _ _ _; exact j_none
  | succ n ih =>
    intro γ x6 x7
    rw [show fX12_handOn_L75 F S x2 x3 y4 k111 (n + 1) x6 x7 = fX12_handOn_b75 F S x2 x3 y4 k111 (fX12_handOn_L75 F S x2 x3 y4 k111 n) x6 x7 from rfl]
    unfold fX12_handOn_b75
    refine j_iload 75 5 dX12_handOn_75 rfl ?_
    refine j_aload_n 77 0 dX12_handOn_77 rfl rfl ?_
    refine j_geti 78 6 nX12_handOn_X12 rfl (by decide) (prs_mem (by decide) (by decide)) (by decide) (by decide) wX12_handOn_f175 (Or.inl rfl) rfl dX12_handOn_78 ?_
    refine j_icmp_ge 81 111 dX12_handOn_81 (by decide) (fun _ => ?_) (fun _ => ?_)
    · refine j_sub [0, 1, 2, 3, 4] rfl ?_
      exact hk111 _ x6
    · refine j_iload 84 4 dX12_handOn_84 rfl ?_
      refine j_aload_n 86 0 dX12_handOn_86 rfl rfl ?_
      refine j_iload 87 5 dX12_handOn_87 rfl ?_
      refine j_iload_n 89 2 dX12_handOn_89 rfl rfl ?_
      refine j_iload_n 90 1 dX12_handOn_90 rfl rfl ?_
      refine j_callV_pi 91 rfl (by decide) (prs_mem (by decide) (by decide))  [.int x7, .int x3, .int x2] [.int x6] gX12_handOn_X12_isChild rfl eX12_isChild ⟨Nat.le_of_ble_eq_true rfl, Nat.le_of_ble_eq_true rfl⟩ rfl rfl (Nat.le_of_ble_eq_true rfl) dX12_handOn_91 (kX12_isChild S x7 x3 x2) (fun b_8 γ => ?_)
      refine j_if_eq 94 101 dX12_handOn_94 (by decide) (fun _ => ?_) (fun _ => ?_)
      · refine j_iconst (v := 0) 101 dX12_handOn_101 (by decide) ?_
        refine j_iadd 102 dX12_handOn_102 ?_
        refine j_bndi (fun x6_9 => ?_)
        refine j_istore (lv2 := [(6, .int x6_9), (0, .ref (ad 11 0)), (2, .int x2), (3, .int x3), (4, .long y4), (7, .int x7)]) 103 dX12_handOn_103 (by decide) rfl ?_
        refine j_iinc (v := x7 + 1) (lv2 := [(7, .int (x7 + 1)), (6, .int x6_9), (0, .ref (ad 11 0)), (2, .int x2), (3, .int x3), (4, .long y4)]) 105 5 dX12_handOn_105 rfl rfl (by decide) rfl ?_
        refine j_goto 108 75 dX12_handOn_108 (by decide) ?_
        refine j_sub [2, 3, 4, 5, 1, 0] rfl ?_
        exact ih _ x6_9 (x7 + 1)
      · refine j_iconst (v := 1) 97 dX12_handOn_97 (by decide) ?_
        refine j_goto 98 102 dX12_handOn_98 (by decide) ?_
        refine j_iadd 102 dX12_handOn_102 ?_
        refine j_bndi (fun x6_10 => ?_)
        refine j_istore (lv2 := [(6, .int x6_10), (0, .ref (ad 11 0)), (2, .int x2), (3, .int x3), (4, .long y4), (7, .int x7)]) 103 dX12_handOn_103 (by decide) rfl ?_
        refine j_iinc (v := x7 + 1) (lv2 := [(7, .int (x7 + 1)), (6, .int x6_10), (0, .ref (ad 11 0)), (2, .int x2), (3, .int x3), (4, .long y4)]) 105 5 dX12_handOn_105 rfl rfl (by decide) rfl ?_
        refine j_goto 108 75 dX12_handOn_108 (by decide) ?_
        refine j_sub [2, 3, 4, 5, 1, 0] rfl ?_
        exact ih _ x6_10 (x7 + 1)
set_option maxRecDepth 100000 in
set_option maxHeartbeats 4000000 in
theorem tX12_handOn_L149 {ad : Nat → Nat → Nat} (X : Ctx) (F : Nat) (x2 : Int32) (x3 : Int32) (y7 : Int64) (k240 : St → Option St)  (hk240 : ∀ (γ : Nat → Nat) (S : St), JJ X ad γ (RQm X ad 1 23 outev) (fcm outev) 1 23 cX12_handOn 10 RX12 wsX12_handOn none (k240 S) S 240 [(0, .ref (ad 11 0)), (2, .int x2)] []) : ∀ (n : Nat) (γ : Nat → Nat) (x9 : Int32) (S : St), JJ X ad γ (RQm X ad 1 23 outev) (fcm outev) 1 23 cX12_handOn 10 RX12 wsX12_handOn none (fX12_handOn_L149 F x2 x3 y7 k240 n x9 S) S 149 [(0, .ref (ad 11 0)), (2, .int x2), (3, .int x3), (7, .long y7), (9, .int x9)] [] := by
  intro n
  induction n with
  | zero => intro _ _ _; exact j_none
  | succ n ih =>
    intro γ x9 S
    rw [show fX12_handOn_L149 F x2 x3 y7 k240 (n + 1) x9 S = fX12_handOn_b149 F x2 x3 y7 k240 (fX12_handOn_L149 F x2 x3 y7 k240 n) x9 S from rfl]
    unfold fX12_handOn_b149
    refine j_iload 149 4 dX12_handOn_149 rfl ?_
    refine j_aload_n 151 0 dX12_handOn_151 rfl rfl ?_
    refine j_geti 152 6 nX12_handOn_X12 rfl (by decide) (prs_mem (by decide) (by decide)) (by decide) (by decide) wX12_handOn_f175 (Or.inl rfl) rfl dX12_handOn_152 ?_
    refine j_icmp_ge 155 240 dX12_handOn_155 (by decide) (fun _ => ?_) (fun _ => ?_)
    · refine j_sub [0, 1] rfl ?_
      exact hk240 _ S
    · refine j_lload 158 3 dX12_handOn_158 rfl ?_
      refine j_lconst (v := 0) 160 dX12_handOn_160 (by decide) ?_
      refine j_lcmp 161 dX12_handOn_161 ?_
      refine j_if_le 162 240 dX12_handOn_162 (by decide) (fun _ => ?_) (fun _ => ?_)
      · refine j_sub [0, 1] rfl ?_
        exact hk240 _ S
      · refine j_aload_n 165 0 dX12_handOn_165 rfl rfl ?_
        refine j_iload 166 4 dX12_handOn_166 rfl ?_
        refine j_iload_n 168 2 dX12_handOn_168 rfl rfl ?_
        refine j_iload_n 169 1 dX12_handOn_169 rfl rfl ?_
        refine j_callV_pi 170 rfl (by decide) (prs_mem (by decide) (by decide))  [.int x9, .int x3, .int x2] [] gX12_handOn_X12_isChild rfl eX12_isChild ⟨Nat.le_of_ble_eq_true rfl, Nat.le_of_ble_eq_true rfl⟩ rfl rfl (Nat.le_of_ble_eq_true rfl) dX12_handOn_170 (kX12_isChild S x9 x3 x2) (fun b_13 γ => ?_)
        refine j_if_eq 173 234 dX12_handOn_173 (by decide) (fun _ => ?_) (fun _ => ?_)
        · refine j_iinc (v := x9 + 1) (lv2 := [(9, .int (x9 + 1)), (0, .ref (ad 11 0)), (2, .int x2), (3, .int x3), (7, .long y7)]) 234 4 dX12_handOn_234 rfl rfl (by decide) rfl ?_
          refine j_goto 237 149 dX12_handOn_237 (by decide) ?_
          refine j_sub [1, 2, 3, 4, 0] rfl ?_
          exact ih _ (x9 + 1) S
        · refine j_aload_n 176 0 dX12_handOn_176 rfl rfl ?_
          refine j_getr (c2 := 61) (n2 := 0) 177 9 nX12_handOn_X12 rfl (by decide) (prs_mem (by decide) (by decide)) (by decide) (by decide) wX12_handOn_f34 (Or.inl rfl) rfl rfl rfl dX12_handOn_177 ?_
          refine j_iload 180 4 dX12_handOn_180 rfl ?_
          refine j_iald (c := 61) (n := 0) (L := 30) 182 (prs_mem (by decide) (by decide)) (by decide) rfl rfl rfl dX12_handOn_182 ?_
          refine j_iload_n 183 1 dX12_handOn_183 rfl rfl ?_
          refine j_icmp_gt 184 222 dX12_handOn_184 (by decide) (fun _ => ?_) (fun _ => ?_)
          · refine j_aload_n 222 0 dX12_handOn_222 rfl rfl ?_
            refine j_getr (c2 := 76) (n2 := 0) 223 32 nX12_handOn_X12 rfl (by decide) (prs_mem (by decide) (by decide)) (by decide) (by decide) wX12_handOn_f79 (Or.inl rfl) rfl rfl rfl dX12_handOn_223 ?_
            refine j_iload 226 4 dX12_handOn_226 rfl ?_
            refine j_dup2 228 dX12_handOn_228 rfl rfl ?_
            refine j_lald (c := 76) (n := 0) (L := 30) 229 (prs_mem (by decide) (by decide)) (by decide) rfl rfl rfl dX12_handOn_229 ?_
            refine j_lload 230 3 dX12_handOn_230 rfl ?_
            refine j_ladd 232 dX12_handOn_232 ?_
            refine j_last (c := 76) (n := 0) (L := 30) 233 (prs_mem (by decide) (by decide)) (by decide) rfl rfl rfl dX12_handOn_233 (j_bs (fun S_14 => ?_))
            refine j_iinc (v := x9 + 1) (lv2 := [(9, .int (x9 + 1)), (0, .ref (ad 11 0)), (2, .int x2), (3, .int x3), (7, .long y7)]) 234 4 dX12_handOn_234 rfl rfl (by decide) rfl ?_
            refine j_goto 237 149 dX12_handOn_237 (by decide) ?_
            refine j_sub [1, 2, 3, 4, 0] rfl ?_
            exact ih _ (x9 + 1) S_14
          · refine j_aload_n 187 0 dX12_handOn_187 rfl rfl ?_
            refine j_getr (c2 := 77) (n2 := 0) 188 36 nX12_handOn_X12 rfl (by decide) (prs_mem (by decide) (by decide)) (by decide) (by decide) wX12_handOn_f83 (Or.inl rfl) rfl rfl rfl dX12_handOn_188 ?_
            refine j_aload_n 191 0 dX12_handOn_191 rfl rfl ?_
            refine j_geti 192 35 nX12_handOn_X12 rfl (by decide) (prs_mem (by decide) (by decide)) (by decide) (by decide) wX12_handOn_f235 (Or.inl rfl) rfl dX12_handOn_192 ?_
            refine j_iload 195 4 dX12_handOn_195 rfl ?_
            refine j_iast (c := 77) (n := 0) (L := 900) 197 (prs_mem (by decide) (by decide)) (by decide) rfl rfl rfl dX12_handOn_197 (j_bs (fun S_15 => ?_))
            refine j_aload_n 198 0 dX12_handOn_198 rfl rfl ?_
            refine j_getr (c2 := 78) (n2 := 0) 199 37 nX12_handOn_X12 rfl (by decide) (prs_mem (by decide) (by decide)) (by decide) (by decide) wX12_handOn_f86 (Or.inl rfl) rfl rfl rfl dX12_handOn_199 ?_
            refine j_aload_n 202 0 dX12_handOn_202 rfl rfl ?_
            refine j_geti 203 35 nX12_handOn_X12 rfl (by decide) (prs_mem (by decide) (by decide)) (by decide) (by decide) wX12_handOn_f235 (Or.inl rfl) rfl dX12_handOn_203 ?_
            refine j_lload 206 3 dX12_handOn_206 rfl ?_
            refine j_last (c := 78) (n := 0) (L := 900) 208 (prs_mem (by decide) (by decide)) (by decide) rfl rfl rfl dX12_handOn_208 (j_bs (fun S_16 => ?_))
            refine j_aload_n 209 0 dX12_handOn_209 rfl rfl ?_
            refine j_dup 210 dX12_handOn_210 rfl ?_
            refine j_geti 211 35 nX12_handOn_X12 rfl (by decide) (prs_mem (by decide) (by decide)) (by decide) (by decide) wX12_handOn_f235 (Or.inl rfl) rfl dX12_handOn_211 ?_
            refine j_iconst (v := 1) 214 dX12_handOn_214 (by decide) ?_
            refine j_iadd 215 dX12_handOn_215 ?_
            refine j_puti 216 35 nX12_handOn_X12 rfl (by decide) (prs_mem (by decide) (by decide)) (by decide) (by decide) wX12_handOn_f235 (Or.inl rfl) tyX12 tyX12_ok nmX12 rfl (by decide) rfl dX12_handOn_216 (j_bs (fun S_17 => ?_))
            refine j_goto 219 234 dX12_handOn_219 (by decide) ?_
            refine j_iinc (v := x9 + 1) (lv2 := [(9, .int (x9 + 1)), (0, .ref (ad 11 0)), (2, .int x2), (3, .int x3), (7, .long y7)]) 234 4 dX12_handOn_234 rfl rfl (by decide) rfl ?_
            refine j_goto 237 149 dX12_handOn_237 (by decide) ?_
            refine j_sub [1, 2, 3, 4, 0] rfl ?_
            exact ih _ (x9 + 1) S_17
set_option maxRecDepth 100000 in
set_option maxHeartbeats 4000000 in
theorem tX12_handOn_j126 {ad : Nat → Nat → Nat} (X : Ctx) (γ : Nat → Nat) (F : Nat) (S : St) (x2 : Int32) (x3 : Int32) (y4 : Int64) (x6 : Int32) (s0 : Int64) (rec : St → Option St)  (ih : ∀ (γ : Nat → Nat) (S : St), JJ X ad γ (RQm X ad 1 23 outev) (fcm outev) 1 23 cX12_handOn 10 RX12 wsX12_handOn none (rec S) S 31 [(0, .ref (ad 11 0)), (2, .int x2)] []) : JJ X ad γ (RQm X ad 1 23 outev) (fcm outev) 1 23 cX12_handOn 10 RX12 wsX12_handOn none (fX12_handOn_j126 F S x2 x3 y4 x6 s0 rec) S 126 [(0, .ref (ad 11 0)), (2, .int x2), (3, .int x3), (4, .long y4), (6, .int x6)] [.long s0] := by
  unfold fX12_handOn_j126
  refine j_lstore (lv2 := [(7, .long s0), (0, .ref (ad 11 0)), (2, .int x2), (3, .int x3), (4, .long y4), (6, .int x6)]) 126 dX12_handOn_126 (by decide) rfl ?_
  refine j_aload_n 128 1 dX12_handOn_128 rfl rfl ?_
  refine j_dup 129 dX12_handOn_129 rfl ?_
  refine j_getl 130 33 nX12_handOn_X12 rfl (by decide) (prs_mem (by decide) (by decide)) (by decide) (by decide) wX12_handOn_f231 (Or.inl rfl) rfl dX12_handOn_130 ?_
  refine j_lload 133 4 dX12_handOn_133 rfl ?_
  refine j_lload 135 0 dX12_handOn_135 rfl ?_
  refine j_iload 137 5 dX12_handOn_137 rfl ?_
  refine j_i2l 139 dX12_handOn_139 ?_
  refine j_lmul 140 dX12_handOn_140 ?_
  refine j_lsub 141 dX12_handOn_141 ?_
  refine j_ladd 142 dX12_handOn_142 ?_
  refine j_putl 143 33 nX12_handOn_X12 rfl (by decide) (prs_mem (by decide) (by decide)) (by decide) (by decide) wX12_handOn_f231 (Or.inl rfl) tyX12 tyX12_ok nmX12 rfl (by decide) rfl dX12_handOn_143 (j_bs (fun S_12 => ?_))
  refine j_iconst (v := 0) 146 dX12_handOn_146 (by decide) ?_
  refine j_istore (lv2 := [(9, .int 0), (7, .long s0), (0, .ref (ad 11 0)), (2, .int x2), (3, .int x3), (4, .long y4), (6, .int x6)]) 147 dX12_handOn_147 (by decide) rfl ?_
  refine j_sub [2, 3, 4, 1, 0] rfl ?_
  refine tX12_handOn_L149 X F x2 x3 s0 _ (fun γ S_18 => ?_) F _ 0 S_12
  refine j_goto 240 31 dX12_handOn_240 (by decide) ?_
  exact ih _ S_18
set_option maxRecDepth 100000 in
set_option maxHeartbeats 4000000 in
theorem tX12_handOn_L31 {ad : Nat → Nat → Nat} (X : Ctx) (F : Nat) (x2 : Int32)   : ∀ (n : Nat) (γ : Nat → Nat) (S : St), JJ X ad γ (RQm X ad 1 23 outev) (fcm outev) 1 23 cX12_handOn 10 RX12 wsX12_handOn none (fX12_handOn_L31 F x2 n S) S 31 [(0, .ref (ad 11 0)), (2, .int x2)] [] := by
  intro n
  induction n with
  | zero => intro _ _; exact j_none
  | succ n ih =>
    intro γ S
    rw [show fX12_handOn_L31 F x2 (n + 1) S = fX12_handOn_b31 F x2 (fX12_handOn_L31 F x2 n) S from rfl]
    unfold fX12_handOn_b31
    refine j_aload_n 31 0 dX12_handOn_31 rfl rfl ?_
    refine j_geti 32 35 nX12_handOn_X12 rfl (by decide) (prs_mem (by decide) (by decide)) (by decide) (by decide) wX12_handOn_f235 (Or.inl rfl) rfl dX12_handOn_32 ?_
    refine j_if_le 35 243 dX12_handOn_35 (by decide) (fun _ => ?_) (fun _ => ?_)
    · exact j_vret 243 rfl dX12_handOn_243
    · refine j_aload_n 38 0 dX12_handOn_38 rfl rfl ?_
      refine j_dup 39 dX12_handOn_39 rfl ?_
      refine j_geti 40 35 nX12_handOn_X12 rfl (by decide) (prs_mem (by decide) (by decide)) (by decide) (by decide) wX12_handOn_f235 (Or.inl rfl) rfl dX12_handOn_40 ?_
      refine j_iconst (v := 1) 43 dX12_handOn_43 (by decide) ?_
      refine j_isub 44 dX12_handOn_44 ?_
      refine j_puti 45 35 nX12_handOn_X12 rfl (by decide) (prs_mem (by decide) (by decide)) (by decide) (by decide) wX12_handOn_f235 (Or.inl rfl) tyX12 tyX12_ok nmX12 rfl (by decide) rfl dX12_handOn_45 (j_bs (fun S_5 => ?_))
      refine j_aload_n 48 0 dX12_handOn_48 rfl rfl ?_
      refine j_getr (c2 := 77) (n2 := 0) 49 36 nX12_handOn_X12 rfl (by decide) (prs_mem (by decide) (by decide)) (by decide) (by decide) wX12_handOn_f83 (Or.inl rfl) rfl rfl rfl dX12_handOn_49 ?_
      refine j_aload_n 52 0 dX12_handOn_52 rfl rfl ?_
      refine j_geti 53 35 nX12_handOn_X12 rfl (by decide) (prs_mem (by decide) (by decide)) (by decide) (by decide) wX12_handOn_f235 (Or.inl rfl) rfl dX12_handOn_53 ?_
      refine j_iald (c := 77) (n := 0) (L := 900) 56 (prs_mem (by decide) (by decide)) (by decide) rfl rfl rfl dX12_handOn_56 ?_
      refine j_bndi (fun x3_6 => ?_)
      refine j_istore_n (lv2 := [(3, .int x3_6), (0, .ref (ad 11 0)), (2, .int x2)]) 57 dX12_handOn_57 rfl (by decide) rfl ?_
      refine j_aload_n 58 1 dX12_handOn_58 rfl rfl ?_
      refine j_getr (c2 := 78) (n2 := 0) 59 37 nX12_handOn_X12 rfl (by decide) (prs_mem (by decide) (by decide)) (by decide) (by decide) wX12_handOn_f86 (Or.inl rfl) rfl rfl rfl dX12_handOn_59 ?_
      refine j_aload_n 62 1 dX12_handOn_62 rfl rfl ?_
      refine j_geti 63 35 nX12_handOn_X12 rfl (by decide) (prs_mem (by decide) (by decide)) (by decide) (by decide) wX12_handOn_f235 (Or.inl rfl) rfl dX12_handOn_63 ?_
      refine j_lald (c := 78) (n := 0) (L := 900) 66 (prs_mem (by decide) (by decide)) (by decide) rfl rfl rfl dX12_handOn_66 ?_
      refine j_bndl (fun y4_7 => ?_)
      refine j_lstore (lv2 := [(4, .long y4_7), (3, .int x3_6), (0, .ref (ad 11 0)), (2, .int x2)]) 67 dX12_handOn_67 (by decide) rfl ?_
      refine j_iconst (v := 0) 69 dX12_handOn_69 (by decide) ?_
      refine j_istore (lv2 := [(6, .int 0), (4, .long y4_7), (3, .int x3_6), (0, .ref (ad 11 0)), (2, .int x2)]) 70 dX12_handOn_70 (by decide) rfl ?_
      refine j_iconst (v := 0) 72 dX12_handOn_72 (by decide) ?_
      refine j_istore (lv2 := [(7, .int 0), (6, .int 0), (4, .long y4_7), (3, .int x3_6), (0, .ref (ad 11 0)), (2, .int x2)]) 73 dX12_handOn_73 (by decide) rfl ?_
      refine j_sub [4, 5, 3, 2, 1, 0] rfl ?_
      refine tX12_handOn_L75 X F S_5 x2 x3_6 y4_7 _ (fun γ x6_11 => ?_) F _ 0 0
      refine j_iload 111 4 dX12_handOn_111 rfl ?_
      refine j_if_ne 113 120 dX12_handOn_113 (by decide) (fun _ => ?_) (fun _ => ?_)
      · refine j_lload 120 3 dX12_handOn_120 rfl ?_
        refine j_iload 122 4 dX12_handOn_122 rfl ?_
        refine j_i2l 124 dX12_handOn_124 ?_
        refine j_ldiv 125 dX12_handOn_125 ?_
        exact tX12_handOn_j126 X _ F S_5 x2 x3_6 y4_7 x6_11 (y4_7 / x6_11.toInt64) _ ih
      · refine j_lconst (v := 0) 116 dX12_handOn_116 (by decide) ?_
        refine j_goto 117 126 dX12_handOn_117 (by decide) ?_
        exact tX12_handOn_j126 X _ F S_5 x2 x3_6 y4_7 x6_11 0 _ ih
set_option maxRecDepth 100000 in
set_option maxHeartbeats 4000000 in
theorem tX12_handOn {ad : Nat → Nat → Nat} (X : Ctx) (γ : Nat → Nat) (F : Nat) (S : St) (p1 : Int32) (p2 : Int32) : JJ X ad γ (RQm X ad 1 23 outev) (fcm outev) 1 23 cX12_handOn 10 RX12 wsX12_handOn none (fX12_handOn F S p1 p2) S 0 [(0, .ref (ad 11 0)), (1, .int p1), (2, .int p2)] [] := by
  unfold fX12_handOn
  refine j_aload_n 0 0 dX12_handOn_0 rfl rfl ?_
  refine j_getr (c2 := 77) (n2 := 0) 1 36 nX12_handOn_X12 rfl (by decide) (prs_mem (by decide) (by decide)) (by decide) (by decide) wX12_handOn_f83 (Or.inl rfl) rfl rfl rfl dX12_handOn_1 ?_
  refine j_iconst (v := 0) 4 dX12_handOn_4 (by decide) ?_
  refine j_iload_n 5 1 dX12_handOn_5 rfl rfl ?_
  refine j_iast (c := 77) (n := 0) (L := 900) 6 (prs_mem (by decide) (by decide)) (by decide) rfl rfl rfl dX12_handOn_6 (j_bs (fun S_1 => ?_))
  refine j_aload_n 7 0 dX12_handOn_7 rfl rfl ?_
  refine j_getr (c2 := 78) (n2 := 0) 8 37 nX12_handOn_X12 rfl (by decide) (prs_mem (by decide) (by decide)) (by decide) (by decide) wX12_handOn_f86 (Or.inl rfl) rfl rfl rfl dX12_handOn_8 ?_
  refine j_iconst (v := 0) 11 dX12_handOn_11 (by decide) ?_
  refine j_aload_n 12 0 dX12_handOn_12 rfl rfl ?_
  refine j_getr (c2 := 76) (n2 := 0) 13 32 nX12_handOn_X12 rfl (by decide) (prs_mem (by decide) (by decide)) (by decide) (by decide) wX12_handOn_f79 (Or.inl rfl) rfl rfl rfl dX12_handOn_13 ?_
  refine j_iload_n 16 1 dX12_handOn_16 rfl rfl ?_
  refine j_lald (c := 76) (n := 0) (L := 30) 17 (prs_mem (by decide) (by decide)) (by decide) rfl rfl rfl dX12_handOn_17 ?_
  refine j_last (c := 78) (n := 0) (L := 900) 18 (prs_mem (by decide) (by decide)) (by decide) rfl rfl rfl dX12_handOn_18 (j_bs (fun S_2 => ?_))
  refine j_aload_n 19 0 dX12_handOn_19 rfl rfl ?_
  refine j_iconst (v := 1) 20 dX12_handOn_20 (by decide) ?_
  refine j_puti 21 35 nX12_handOn_X12 rfl (by decide) (prs_mem (by decide) (by decide)) (by decide) (by decide) wX12_handOn_f235 (Or.inl rfl) tyX12 tyX12_ok nmX12 rfl (by decide) rfl dX12_handOn_21 (j_bs (fun S_3 => ?_))
  refine j_aload_n 24 0 dX12_handOn_24 rfl rfl ?_
  refine j_getr (c2 := 76) (n2 := 0) 25 32 nX12_handOn_X12 rfl (by decide) (prs_mem (by decide) (by decide)) (by decide) (by decide) wX12_handOn_f79 (Or.inl rfl) rfl rfl rfl dX12_handOn_25 ?_
  refine j_iload_n 28 1 dX12_handOn_28 rfl rfl ?_
  refine j_lconst (v := 0) 29 dX12_handOn_29 (by decide) ?_
  refine j_last (c := 76) (n := 0) (L := 30) 30 (prs_mem (by decide) (by decide)) (by decide) rfl rfl rfl dX12_handOn_30 (j_bs (fun S_4 => ?_))
  refine j_sub [0, 2] rfl ?_
  exact tX12_handOn_L31 X F p2 F _ S_4
set_option maxRecDepth 100000 in
set_option maxHeartbeats 4000000 in
theorem kX12_handOn {ad : Nat → Nat → Nat} (F : Nat) (S : St) (p1 : Int32) (p2 : Int32) : ∀ b, fX12_handOn F S p1 p2 = some b → ∀ l dC dI cy, CT l dC dI cy ad yX12_handOn wsX12_handOn 1 23 [.ref (ad 11 0), .int p1, .int p2] S (none) b :=
  fun b hb l dC dI cy => ct_of (l := l) (dC := dC) (dI := dI) (cy := cy) outev (by decide) rfl (Nat.le_of_ble_eq_true rfl) rfl (fun X γ => tX12_handOn X γ F S p1 p2) b hb
-- X12_goYear
theorem nX12_goYear_X12 : ∀ w ∈ u_ws RX12 TX12 40, w ∈ wsX12_goYear := by decide +kernel
theorem wX12_goYear_f175 : Cond.fieldLink RX12 175 "TwoTonguesModel" "personMany" "I" ∈ wsX12_goYear := by decide +kernel
theorem wX12_goYear_f34 : Cond.fieldLink RX12 34 "TwoTonguesModel" "dies" "[I" ∈ wsX12_goYear := by decide +kernel
theorem wX12_goYear_f79 : Cond.fieldLink RX12 79 "TwoTonguesModel" "parts" "[J" ∈ wsX12_goYear := by decide +kernel
set_option maxRecDepth 100000 in
set_option maxHeartbeats 4000000 in
theorem tX12_goYear_L2 {ad : Nat → Nat → Nat} (X : Ctx) (F : Nat) (x1 : Int32)   : ∀ (n : Nat) (γ : Nat → Nat) (x2 : Int32) (S : St), JJ X ad γ (RQm X ad 2 52 outev) (fcm outev) 2 52 cX12_goYear 3 RX12 wsX12_goYear none (fX12_goYear_L2 F x1 n x2 S) S 2 [(0, .ref (ad 11 0)), (1, .int x1), (2, .int x2)] [] := by
  intro n
  induction n with
  | zero => intro _ _ _; exact j_none
  | succ n ih =>
    intro γ x2 S
    rw [show fX12_goYear_L2 F x1 (n + 1) x2 S = fX12_goYear_b2 F x1 (fX12_goYear_L2 F x1 n) x2 S from rfl]
    unfold fX12_goYear_b2
    refine j_iload_n 2 2 dX12_goYear_2 rfl rfl ?_
    refine j_aload_n 3 0 dX12_goYear_3 rfl rfl ?_
    refine j_geti 4 6 nX12_goYear_X12 rfl (by decide) (prs_mem (by decide) (by decide)) (by decide) (by decide) wX12_goYear_f175 (Or.inl rfl) rfl dX12_goYear_4 ?_
    refine j_icmp_ge 7 43 dX12_goYear_7 (by decide) (fun _ => ?_) (fun _ => ?_)
    · exact j_vret 43 rfl dX12_goYear_43
    · refine j_aload_n 10 0 dX12_goYear_10 rfl rfl ?_
      refine j_getr (c2 := 61) (n2 := 0) 11 9 nX12_goYear_X12 rfl (by decide) (prs_mem (by decide) (by decide)) (by decide) (by decide) wX12_goYear_f34 (Or.inl rfl) rfl rfl rfl dX12_goYear_11 ?_
      refine j_iload_n 14 2 dX12_goYear_14 rfl rfl ?_
      refine j_iald (c := 61) (n := 0) (L := 30) 15 (prs_mem (by decide) (by decide)) (by decide) rfl rfl rfl dX12_goYear_15 ?_
      refine j_iload_n 16 1 dX12_goYear_16 rfl rfl ?_
      refine j_icmp_ne 17 37 dX12_goYear_17 (by decide) (fun _ => ?_) (fun _ => ?_)
      · refine j_iinc (v := x2 + 1) (lv2 := [(2, .int (x2 + 1)), (0, .ref (ad 11 0)), (1, .int x1)]) 37 2 dX12_goYear_37 rfl rfl (by decide) rfl ?_
        refine j_goto 40 2 dX12_goYear_40 (by decide) ?_
        refine j_sub [1, 2, 0] rfl ?_
        exact ih _ (x2 + 1) S
      · refine j_aload_n 20 0 dX12_goYear_20 rfl rfl ?_
        refine j_getr (c2 := 76) (n2 := 0) 21 32 nX12_goYear_X12 rfl (by decide) (prs_mem (by decide) (by decide)) (by decide) (by decide) wX12_goYear_f79 (Or.inl rfl) rfl rfl rfl dX12_goYear_21 ?_
        refine j_iload_n 24 2 dX12_goYear_24 rfl rfl ?_
        refine j_lald (c := 76) (n := 0) (L := 30) 25 (prs_mem (by decide) (by decide)) (by decide) rfl rfl rfl dX12_goYear_25 ?_
        refine j_lconst (v := 0) 26 dX12_goYear_26 (by decide) ?_
        refine j_lcmp 27 dX12_goYear_27 ?_
        refine j_if_le 28 37 dX12_goYear_28 (by decide) (fun _ => ?_) (fun _ => ?_)
        · refine j_iinc (v := x2 + 1) (lv2 := [(2, .int (x2 + 1)), (0, .ref (ad 11 0)), (1, .int x1)]) 37 2 dX12_goYear_37 rfl rfl (by decide) rfl ?_
          refine j_goto 40 2 dX12_goYear_40 (by decide) ?_
          refine j_sub [1, 2, 0] rfl ?_
          exact ih _ (x2 + 1) S
        · refine j_aload_n 31 0 dX12_goYear_31 rfl rfl ?_
          refine j_iload_n 32 2 dX12_goYear_32 rfl rfl ?_
          refine j_iload_n 33 1 dX12_goYear_33 rfl rfl ?_
          refine j_callV_ev 34 rfl (by decide) (prs_mem (by decide) (by decide))  [.int x2, .int x1] [] gX12_goYear_X12_handOn rfl eX12_handOn ⟨Nat.le_of_ble_eq_true rfl, Nat.le_of_ble_eq_true rfl⟩ rfl rfl (Nat.le_of_ble_eq_true rfl) dX12_goYear_34 (kX12_handOn F S x2 x1) (fun b_1 γ => ?_)
          refine j_iinc (v := x2 + 1) (lv2 := [(2, .int (x2 + 1)), (0, .ref (ad 11 0)), (1, .int x1)]) 37 2 dX12_goYear_37 rfl rfl (by decide) rfl ?_
          refine j_goto 40 2 dX12_goYear_40 (by decide) ?_
          refine j_sub [1, 2, 0] rfl ?_
          exact ih _ (x2 + 1) b_1
set_option maxRecDepth 100000 in
set_option maxHeartbeats 4000000 in
theorem tX12_goYear {ad : Nat → Nat → Nat} (X : Ctx) (γ : Nat → Nat) (F : Nat) (S : St) (p1 : Int32) : JJ X ad γ (RQm X ad 2 52 outev) (fcm outev) 2 52 cX12_goYear 3 RX12 wsX12_goYear none (fX12_goYear F S p1) S 0 [(0, .ref (ad 11 0)), (1, .int p1)] [] := by
  unfold fX12_goYear
  refine j_iconst (v := 0) 0 dX12_goYear_0 (by decide) ?_
  refine j_istore_n (lv2 := [(2, .int 0), (0, .ref (ad 11 0)), (1, .int p1)]) 1 dX12_goYear_1 rfl (by decide) rfl ?_
  refine j_sub [1, 2, 0] rfl ?_
  exact tX12_goYear_L2 X F p1 F _ 0 S
set_option maxRecDepth 100000 in
set_option maxHeartbeats 4000000 in
theorem kX12_goYear {ad : Nat → Nat → Nat} (F : Nat) (S : St) (p1 : Int32) : ∀ b, fX12_goYear F S p1 = some b → ∀ l dC dI cy, CT l dC dI cy ad yX12_goYear wsX12_goYear 2 52 [.ref (ad 11 0), .int p1] S (none) b :=
  fun b hb l dC dI cy => ct_of (l := l) (dC := dC) (dI := dI) (cy := cy) outev (by decide) rfl (Nat.le_of_ble_eq_true rfl) rfl (fun X γ => tX12_goYear X γ F S p1) b hb
-- X12_shares
theorem nX12_shares_X12 : ∀ w ∈ u_ws RX12 TX12 40, w ∈ wsX12_shares := by decide +kernel
theorem wX12_shares_f223 : Cond.fieldLink RX12 223 "TwoTonguesModel" "among" "I" ∈ wsX12_shares := by decide +kernel
theorem wX12_shares_f55 : Cond.fieldLink RX12 55 "TwoTonguesModel" "shareKin" "[I" ∈ wsX12_shares := by decide +kernel
theorem wX12_shares_f58 : Cond.fieldLink RX12 58 "TwoTonguesModel" "shareYear" "[I" ∈ wsX12_shares := by decide +kernel
set_option maxRecDepth 100000 in
set_option maxHeartbeats 4000000 in
theorem tX12_shares {ad : Nat → Nat → Nat} (X : Ctx) (γ : Nat → Nat) (F : Nat) (S : St) (p1 : Int32) (p2 : Int32) (p3 : Int32) : JJ X ad γ (RQm X ad 3 67 outei) (fcm outei) 3 67 cX12_shares 4 RX12 wsX12_shares (some .int) (fX12_shares F S p1 p2 p3) S 0 [(0, .ref (ad 11 0)), (1, .int p1), (2, .int p2), (3, .int p3)] [] := by
  unfold fX12_shares
  refine j_aload_n 0 0 dX12_shares_0 rfl rfl ?_
  refine j_iload_n 1 1 dX12_shares_1 rfl rfl ?_
  refine j_callV_pi 2 rfl (by decide) (prs_mem (by decide) (by decide))  [.int p1] [] gX12_shares_X12_isBlock rfl eX12_isBlock ⟨Nat.le_of_ble_eq_true rfl, Nat.le_of_ble_eq_true rfl⟩ rfl rfl (Nat.le_of_ble_eq_true rfl) dX12_shares_2 (kX12_isBlock S p1) (fun b_1 γ => ?_)
  refine j_if_eq 5 22 dX12_shares_5 (by decide) (fun _ => ?_) (fun _ => ?_)
  · refine j_iconst (v := (-1)) 22 dX12_shares_22 (by decide) ?_
    exact j_iret 23 rfl dX12_shares_23
  · refine j_iload_n 8 2 dX12_shares_8 rfl rfl ?_
    refine j_callS_pi 9  [.int p2] [] gX12_shares_X12_isKin rfl eX12_isKin ⟨Nat.le_of_ble_eq_true rfl, Nat.le_of_ble_eq_true rfl⟩ rfl rfl (Nat.le_of_ble_eq_true rfl) dX12_shares_9 (kX12_isKin S p2) (fun b_2 γ => ?_)
    refine j_if_eq 12 22 dX12_shares_12 (by decide) (fun _ => ?_) (fun _ => ?_)
    · refine j_iconst (v := (-1)) 22 dX12_shares_22 (by decide) ?_
      exact j_iret 23 rfl dX12_shares_23
    · refine j_iload_n 15 3 dX12_shares_15 rfl rfl ?_
      refine j_callS_pi 16  [.int p3] [] gX12_shares_X12_isYear rfl eX12_isYear ⟨Nat.le_of_ble_eq_true rfl, Nat.le_of_ble_eq_true rfl⟩ rfl rfl (Nat.le_of_ble_eq_true rfl) dX12_shares_16 (kX12_isYear S p3) (fun b_3 γ => ?_)
      refine j_if_ne 19 24 dX12_shares_19 (by decide) (fun _ => ?_) (fun _ => ?_)
      · refine j_aload_n 24 0 dX12_shares_24 rfl rfl ?_
        refine j_iload_n 25 2 dX12_shares_25 rfl rfl ?_
        refine j_iload_n 26 3 dX12_shares_26 rfl rfl ?_
        refine j_callV_ev 27 rfl (by decide) (prs_mem (by decide) (by decide))  [.int p2, .int p3] [] gX12_shares_X12_beginShares rfl eX12_beginShares ⟨Nat.le_of_ble_eq_true rfl, Nat.le_of_ble_eq_true rfl⟩ rfl rfl (Nat.le_of_ble_eq_true rfl) dX12_shares_27 (kX12_beginShares F S p2 p3) (fun b_4 γ => ?_)
        refine j_aload_n 30 0 dX12_shares_30 rfl rfl ?_
        refine j_geti 31 34 nX12_shares_X12 rfl (by decide) (prs_mem (by decide) (by decide)) (by decide) (by decide) wX12_shares_f223 (Or.inl rfl) rfl dX12_shares_31 ?_
        refine j_if_ne 34 40 dX12_shares_34 (by decide) (fun _ => ?_) (fun _ => ?_)
        · refine j_aload_n 40 0 dX12_shares_40 rfl rfl ?_
          refine j_getr (c2 := 68) (n2 := 0) 41 21 nX12_shares_X12 rfl (by decide) (prs_mem (by decide) (by decide)) (by decide) (by decide) wX12_shares_f55 (Or.inl rfl) rfl rfl rfl dX12_shares_41 ?_
          refine j_iload_n 44 1 dX12_shares_44 rfl rfl ?_
          refine j_iload_n 45 2 dX12_shares_45 rfl rfl ?_
          refine j_iast (c := 68) (n := 0) (L := 12) 46 (prs_mem (by decide) (by decide)) (by decide) rfl rfl rfl dX12_shares_46 (j_bs (fun S_5 => ?_))
          refine j_aload_n 47 0 dX12_shares_47 rfl rfl ?_
          refine j_getr (c2 := 69) (n2 := 0) 48 22 nX12_shares_X12 rfl (by decide) (prs_mem (by decide) (by decide)) (by decide) (by decide) wX12_shares_f58 (Or.inl rfl) rfl rfl rfl dX12_shares_48 ?_
          refine j_iload_n 51 1 dX12_shares_51 rfl rfl ?_
          refine j_iload_n 52 3 dX12_shares_52 rfl rfl ?_
          refine j_iast (c := 69) (n := 0) (L := 12) 53 (prs_mem (by decide) (by decide)) (by decide) rfl rfl rfl dX12_shares_53 (j_bs (fun S_6 => ?_))
          refine j_aload_n 54 0 dX12_shares_54 rfl rfl ?_
          refine j_geti 55 34 nX12_shares_X12 rfl (by decide) (prs_mem (by decide) (by decide)) (by decide) (by decide) wX12_shares_f223 (Or.inl rfl) rfl dX12_shares_55 ?_
          exact j_iret 58 rfl dX12_shares_58
        · refine j_bipush (v := (-2)) 37 dX12_shares_37 (by decide) ?_
          exact j_iret 39 rfl dX12_shares_39
      · refine j_iconst (v := (-1)) 22 dX12_shares_22 (by decide) ?_
        exact j_iret 23 rfl dX12_shares_23
set_option maxRecDepth 100000 in
set_option maxHeartbeats 4000000 in
theorem kX12_shares {ad : Nat → Nat → Nat} (F : Nat) (S : St) (p1 : Int32) (p2 : Int32) (p3 : Int32) : ∀ b, fX12_shares F S p1 p2 p3 = some b → ∀ l dC dI cy, CT l dC dI cy ad yX12_shares wsX12_shares 3 67 [.ref (ad 11 0), .int p1, .int p2, .int p3] S (some (.int b.1)) b.2 :=
  fun b hb l dC dI cy => ct_of (l := l) (dC := dC) (dI := dI) (cy := cy) outei (by decide) rfl (Nat.le_of_ble_eq_true rfl) rfl (fun X γ => tX12_shares X γ F S p1 p2 p3) b hb
-- X12_share
theorem nX12_share_X12 : ∀ w ∈ u_ws RX12 TX12 40, w ∈ wsX12_share := by decide +kernel
theorem wX12_share_c204 : Cond.constantLong RX12 204 (-1) ∈ wsX12_share := by decide +kernel
theorem wX12_share_f55 : Cond.fieldLink RX12 55 "TwoTonguesModel" "shareKin" "[I" ∈ wsX12_share := by decide +kernel
theorem wX12_share_c248 : Cond.constantLong RX12 248 (-2) ∈ wsX12_share := by decide +kernel
theorem wX12_share_f58 : Cond.fieldLink RX12 58 "TwoTonguesModel" "shareYear" "[I" ∈ wsX12_share := by decide +kernel
theorem wX12_share_f79 : Cond.fieldLink RX12 79 "TwoTonguesModel" "parts" "[J" ∈ wsX12_share := by decide +kernel
theorem wX12_share_f231 : Cond.fieldLink RX12 231 "TwoTonguesModel" "lapsed" "J" ∈ wsX12_share := by decide +kernel
set_option maxRecDepth 100000 in
set_option maxHeartbeats 4000000 in
theorem tX12_share_L79 {ad : Nat → Nat → Nat} (X : Ctx) (F : Nat) (x2 : Int32) (x3 : Int32) (k97 : St → Option (Int64 × St))  (hk97 : ∀ (γ : Nat → Nat) (S : St), JJ X ad γ (RQm X ad 3 74 outel) (fcm outel) 3 74 cX12_share 5 RX12 wsX12_share (some .long) (k97 S) S 97 [(0, .ref (ad 11 0)), (2, .int x2)] []) : ∀ (n : Nat) (γ : Nat → Nat) (x4 : Int32) (S : St), JJ X ad γ (RQm X ad 3 74 outel) (fcm outel) 3 74 cX12_share 5 RX12 wsX12_share (some .long) (fX12_share_L79 F x2 x3 k97 n x4 S) S 79 [(0, .ref (ad 11 0)), (2, .int x2), (3, .int x3), (4, .int x4)] [] := by
  intro n
  induction n with
  | zero => intro _ _ _; exact j_none
  | succ n ih =>
    intro γ x4 S
    rw [show fX12_share_L79 F x2 x3 k97 (n + 1) x4 S = fX12_share_b79 F x2 x3 k97 (fX12_share_L79 F x2 x3 k97 n) x4 S from rfl]
    unfold fX12_share_b79
    refine j_iload 79 3 dX12_share_79 rfl ?_
    refine j_iload_n 81 2 dX12_share_81 rfl rfl ?_
    refine j_icmp_gt 82 97 dX12_share_82 (by decide) (fun _ => ?_) (fun _ => ?_)
    · refine j_sub [0, 1] rfl ?_
      exact hk97 _ S
    · refine j_aload_n 85 0 dX12_share_85 rfl rfl ?_
      refine j_iload 86 3 dX12_share_86 rfl ?_
      refine j_callV_ev 88 rfl (by decide) (prs_mem (by decide) (by decide))  [.int x4] [] gX12_share_X12_goYear rfl eX12_goYear ⟨Nat.le_of_ble_eq_true rfl, Nat.le_of_ble_eq_true rfl⟩ rfl rfl (Nat.le_of_ble_eq_true rfl) dX12_share_88 (kX12_goYear F S x4) (fun b_5 γ => ?_)
      refine j_iinc (v := x4 + 1) (lv2 := [(4, .int (x4 + 1)), (0, .ref (ad 11 0)), (2, .int x2), (3, .int x3)]) 91 3 dX12_share_91 rfl rfl (by decide) rfl ?_
      refine j_goto 94 79 dX12_share_94 (by decide) ?_
      refine j_sub [1, 2, 3, 0] rfl ?_
      exact ih _ (x4 + 1) b_5
set_option maxRecDepth 100000 in
set_option maxHeartbeats 4000000 in
theorem tX12_share_j21 {ad : Nat → Nat → Nat} (X : Ctx) (γ : Nat → Nat) (F : Nat) (S : St) (x1 : Int32) (x2 : Int32) (x3 : Int32)   : JJ X ad γ (RQm X ad 3 74 outel) (fcm outel) 3 74 cX12_share 5 RX12 wsX12_share (some .long) (fX12_share_j21 F S x1 x2 x3) S 21 [(0, .ref (ad 11 0)), (1, .int x1), (2, .int x2), (3, .int x3)] [] := by
  unfold fX12_share_j21
  refine j_iload_n 21 3 dX12_share_21 rfl rfl ?_
  refine j_callS_pi 22  [.int x3] [] gX12_share_X12_isYear rfl eX12_isYear ⟨Nat.le_of_ble_eq_true rfl, Nat.le_of_ble_eq_true rfl⟩ rfl rfl (Nat.le_of_ble_eq_true rfl) dX12_share_22 (kX12_isYear S x3) (fun b_2 γ => ?_)
  refine j_if_ne 25 32 dX12_share_25 (by decide) (fun _ => ?_) (fun _ => ?_)
  · refine j_aload_n 32 0 dX12_share_32 rfl rfl ?_
    refine j_getr (c2 := 68) (n2 := 0) 33 21 nX12_share_X12 rfl (by decide) (prs_mem (by decide) (by decide)) (by decide) (by decide) wX12_share_f55 (Or.inl rfl) rfl rfl rfl dX12_share_33 ?_
    refine j_iload_n 36 1 dX12_share_36 rfl rfl ?_
    refine j_iald (c := 68) (n := 0) (L := 12) 37 (prs_mem (by decide) (by decide)) (by decide) rfl rfl rfl dX12_share_37 ?_
    refine j_if_lt 38 51 dX12_share_38 (by decide) (fun _ => ?_) (fun _ => ?_)
    · refine j_ldc2 (v := (-2)) 51 dX12_share_51 wX12_share_c248 ?_
      exact j_lret 54 rfl dX12_share_54
    · refine j_iload_n 41 3 dX12_share_41 rfl rfl ?_
      refine j_aload_n 42 0 dX12_share_42 rfl rfl ?_
      refine j_getr (c2 := 69) (n2 := 0) 43 22 nX12_share_X12 rfl (by decide) (prs_mem (by decide) (by decide)) (by decide) (by decide) wX12_share_f58 (Or.inl rfl) rfl rfl rfl dX12_share_43 ?_
      refine j_iload_n 46 1 dX12_share_46 rfl rfl ?_
      refine j_iald (c := 69) (n := 0) (L := 12) 47 (prs_mem (by decide) (by decide)) (by decide) rfl rfl rfl dX12_share_47 ?_
      refine j_icmp_ge 48 55 dX12_share_48 (by decide) (fun _ => ?_) (fun _ => ?_)
      · refine j_aload_n 55 0 dX12_share_55 rfl rfl ?_
        refine j_aload_n 56 0 dX12_share_56 rfl rfl ?_
        refine j_getr (c2 := 68) (n2 := 0) 57 21 nX12_share_X12 rfl (by decide) (prs_mem (by decide) (by decide)) (by decide) (by decide) wX12_share_f55 (Or.inl rfl) rfl rfl rfl dX12_share_57 ?_
        refine j_iload_n 60 1 dX12_share_60 rfl rfl ?_
        refine j_iald (c := 68) (n := 0) (L := 12) 61 (prs_mem (by decide) (by decide)) (by decide) rfl rfl rfl dX12_share_61 ?_
        refine j_aload_n 62 0 dX12_share_62 rfl rfl ?_
        refine j_getr (c2 := 69) (n2 := 0) 63 22 nX12_share_X12 rfl (by decide) (prs_mem (by decide) (by decide)) (by decide) (by decide) wX12_share_f58 (Or.inl rfl) rfl rfl rfl dX12_share_63 ?_
        refine j_iload_n 66 1 dX12_share_66 rfl rfl ?_
        refine j_iald (c := 69) (n := 0) (L := 12) 67 (prs_mem (by decide) (by decide)) (by decide) rfl rfl rfl dX12_share_67 ?_
        refine j_callV_ev 68 rfl (by decide) (prs_mem (by decide) (by decide))  [.int (gA S 68 0 x1.toNatClampNeg), .int (gA S 69 0 x1.toNatClampNeg)] [] gX12_share_X12_beginShares rfl eX12_beginShares ⟨Nat.le_of_ble_eq_true rfl, Nat.le_of_ble_eq_true rfl⟩ rfl rfl (Nat.le_of_ble_eq_true rfl) dX12_share_68 (kX12_beginShares F S (gA S 68 0 x1.toNatClampNeg) (gA S 69 0 x1.toNatClampNeg)) (fun b_3 γ => ?_)
        refine j_aload_n 71 0 dX12_share_71 rfl rfl ?_
        refine j_getr (c2 := 69) (n2 := 0) 72 22 nX12_share_X12 rfl (by decide) (prs_mem (by decide) (by decide)) (by decide) (by decide) wX12_share_f58 (Or.inl rfl) rfl rfl rfl dX12_share_72 ?_
        refine j_iload_n 75 1 dX12_share_75 rfl rfl ?_
        refine j_iald (c := 69) (n := 0) (L := 12) 76 (prs_mem (by decide) (by decide)) (by decide) rfl rfl rfl dX12_share_76 ?_
        refine j_bndi (fun x4_4 => ?_)
        refine j_istore (lv2 := [(4, .int x4_4), (0, .ref (ad 11 0)), (1, .int x1), (2, .int x2), (3, .int x3)]) 77 dX12_share_77 (by decide) rfl ?_
        refine j_sub [1, 3, 4, 0] rfl ?_
        refine tX12_share_L79 X F x2 x3 _ (fun γ S_6 => ?_) F _ x4_4 b_3
        refine j_iload_n 97 1 dX12_share_97 rfl rfl ?_
        refine j_if_ge 98 108 dX12_share_98 (by decide) (fun _ => ?_) (fun _ => ?_)
        · refine j_aload_n 108 0 dX12_share_108 rfl rfl ?_
          refine j_getr (c2 := 76) (n2 := 0) 109 32 nX12_share_X12 rfl (by decide) (prs_mem (by decide) (by decide)) (by decide) (by decide) wX12_share_f79 (Or.inl rfl) rfl rfl rfl dX12_share_109 ?_
          refine j_iload_n 112 1 dX12_share_112 rfl rfl ?_
          refine j_lald (c := 76) (n := 0) (L := 30) 113 (prs_mem (by decide) (by decide)) (by decide) rfl rfl rfl dX12_share_113 ?_
          exact j_lret 114 rfl dX12_share_114
        · refine j_aload_n 101 0 dX12_share_101 rfl rfl ?_
          refine j_getl 102 33 nX12_share_X12 rfl (by decide) (prs_mem (by decide) (by decide)) (by decide) (by decide) wX12_share_f231 (Or.inl rfl) rfl dX12_share_102 ?_
          refine j_goto 105 114 dX12_share_105 (by decide) ?_
          exact j_lret 114 rfl dX12_share_114
      · refine j_ldc2 (v := (-2)) 51 dX12_share_51 wX12_share_c248 ?_
        exact j_lret 54 rfl dX12_share_54
  · refine j_ldc2 (v := (-1)) 28 dX12_share_28 wX12_share_c204 ?_
    exact j_lret 31 rfl dX12_share_31
set_option maxRecDepth 100000 in
set_option maxHeartbeats 4000000 in
theorem tX12_share {ad : Nat → Nat → Nat} (X : Ctx) (γ : Nat → Nat) (F : Nat) (S : St) (p1 : Int32) (p2 : Int32) (p3 : Int32) : JJ X ad γ (RQm X ad 3 74 outel) (fcm outel) 3 74 cX12_share 5 RX12 wsX12_share (some .long) (fX12_share F S p1 p2 p3) S 0 [(0, .ref (ad 11 0)), (1, .int p1), (2, .int p2), (3, .int p3)] [] := by
  unfold fX12_share
  refine j_aload_n 0 0 dX12_share_0 rfl rfl ?_
  refine j_iload_n 1 1 dX12_share_1 rfl rfl ?_
  refine j_callV_pi 2 rfl (by decide) (prs_mem (by decide) (by decide))  [.int p1] [] gX12_share_X12_isBlock rfl eX12_isBlock ⟨Nat.le_of_ble_eq_true rfl, Nat.le_of_ble_eq_true rfl⟩ rfl rfl (Nat.le_of_ble_eq_true rfl) dX12_share_2 (kX12_isBlock S p1) (fun b_1 γ => ?_)
  refine j_if_eq 5 28 dX12_share_5 (by decide) (fun _ => ?_) (fun _ => ?_)
  · refine j_ldc2 (v := (-1)) 28 dX12_share_28 wX12_share_c204 ?_
    exact j_lret 31 rfl dX12_share_31
  · refine j_iload_n 8 2 dX12_share_8 rfl rfl ?_
    refine j_iconst (v := (-1)) 9 dX12_share_9 (by decide) ?_
    refine j_icmp_eq 10 21 dX12_share_10 (by decide) (fun _ => ?_) (fun _ => ?_)
    · exact tX12_share_j21 X _ F S p1 p2 p3
    · refine j_aload_n 13 0 dX12_share_13 rfl rfl ?_
      refine j_iload_n 14 2 dX12_share_14 rfl rfl ?_
      refine j_callV_pi 15 rfl (by decide) (prs_mem (by decide) (by decide))  [.int p2] [] gX12_share_X12_isPerson rfl eX12_isPerson ⟨Nat.le_of_ble_eq_true rfl, Nat.le_of_ble_eq_true rfl⟩ rfl rfl (Nat.le_of_ble_eq_true rfl) dX12_share_15 (kX12_isPerson S p2) (fun b_7 γ => ?_)
      refine j_if_eq 18 28 dX12_share_18 (by decide) (fun _ => ?_) (fun _ => ?_)
      · refine j_ldc2 (v := (-1)) 28 dX12_share_28 wX12_share_c204 ?_
        exact j_lret 31 rfl dX12_share_31
      · exact tX12_share_j21 X _ F S p1 p2 p3
set_option maxRecDepth 100000 in
set_option maxHeartbeats 4000000 in
theorem kX12_share {ad : Nat → Nat → Nat} (F : Nat) (S : St) (p1 : Int32) (p2 : Int32) (p3 : Int32) : ∀ b, fX12_share F S p1 p2 p3 = some b → ∀ l dC dI cy, CT l dC dI cy ad yX12_share wsX12_share 3 74 [.ref (ad 11 0), .int p1, .int p2, .int p3] S (some (.long b.1)) b.2 :=
  fun b hb l dC dI cy => ct_of (l := l) (dC := dC) (dI := dI) (cy := cy) outel (by decide) rfl (Nat.le_of_ble_eq_true rfl) rfl (fun X γ => tX12_share X γ F S p1 p2 p3) b hb
-- X12_small
theorem nX12_small_X12 : ∀ w ∈ u_ws RX12 TX12 40, w ∈ wsX12_small := by decide +kernel
theorem wX12_small_c196 : Cond.constantLong RX12 196 (1000000) ∈ wsX12_small := by decide +kernel
theorem wX12_small_f55 : Cond.fieldLink RX12 55 "TwoTonguesModel" "shareKin" "[I" ∈ wsX12_small := by decide +kernel
theorem wX12_small_f58 : Cond.fieldLink RX12 58 "TwoTonguesModel" "shareYear" "[I" ∈ wsX12_small := by decide +kernel
theorem wX12_small_f175 : Cond.fieldLink RX12 175 "TwoTonguesModel" "personMany" "I" ∈ wsX12_small := by decide +kernel
theorem wX12_small_f34 : Cond.fieldLink RX12 34 "TwoTonguesModel" "dies" "[I" ∈ wsX12_small := by decide +kernel
theorem wX12_small_f79 : Cond.fieldLink RX12 79 "TwoTonguesModel" "parts" "[J" ∈ wsX12_small := by decide +kernel
theorem wX12_small_c229 : Cond.constantLong RX12 229 (1000000000000) ∈ wsX12_small := by decide +kernel
set_option maxRecDepth 100000 in
set_option maxHeartbeats 4000000 in
theorem tX12_small_L72 {ad : Nat → Nat → Nat} (X : Ctx) (F : Nat) (S : St) (x2 : Int32) (x3 : Int32) (k129 : Option (Int32 × St))  (hk129 : ∀ (γ : Nat → Nat), JJ X ad γ (RQm X ad 3 74 outei) (fcm outei) 3 74 cX12_small 5 RX12 wsX12_small (some .int) (k129) S 129 [(0, .ref (ad 11 0)), (2, .int x2), (3, .int x3)] []) : ∀ (n : Nat) (γ : Nat → Nat) (x4 : Int32), JJ X ad γ (RQm X ad 3 74 outei) (fcm outei) 3 74 cX12_small 5 RX12 wsX12_small (some .int) (fX12_small_L72 F S x2 x3 k129 n x4) S 72 [(0, .ref (ad 11 0)), (2, .int x2), (3, .int x3), (4, .int x4)] [] := by
  intro n
  induction n with
  | zero => intro _ _; exact j_none
  | succ n ih =>
    intro γ x4
    rw [show fX12_small_L72 F S x2 x3 k129 (n + 1) x4 = fX12_small_b72 F S x2 x3 k129 (fX12_small_L72 F S x2 x3 k129 n) x4 from rfl]
    unfold fX12_small_b72
    refine j_iload 72 3 dX12_small_72 rfl ?_
    refine j_aload_n 74 0 dX12_small_74 rfl rfl ?_
    refine j_geti 75 6 nX12_small_X12 rfl (by decide) (prs_mem (by decide) (by decide)) (by decide) (by decide) wX12_small_f175 (Or.inl rfl) rfl dX12_small_75 ?_
    refine j_icmp_ge 78 129 dX12_small_78 (by decide) (fun _ => ?_) (fun _ => ?_)
    · refine j_sub [0, 1, 2] rfl ?_
      exact hk129 _
    · refine j_aload_n 81 0 dX12_small_81 rfl rfl ?_
      refine j_getr (c2 := 61) (n2 := 0) 82 9 nX12_small_X12 rfl (by decide) (prs_mem (by decide) (by decide)) (by decide) (by decide) wX12_small_f34 (Or.inl rfl) rfl rfl rfl dX12_small_82 ?_
      refine j_iload 85 3 dX12_small_85 rfl ?_
      refine j_iald (c := 61) (n := 0) (L := 30) 87 (prs_mem (by decide) (by decide)) (by decide) rfl rfl rfl dX12_small_87 ?_
      refine j_iload_n 88 2 dX12_small_88 rfl rfl ?_
      refine j_icmp_le 89 123 dX12_small_89 (by decide) (fun _ => ?_) (fun _ => ?_)
      · refine j_iinc (v := x4 + 1) (lv2 := [(4, .int (x4 + 1)), (0, .ref (ad 11 0)), (2, .int x2), (3, .int x3)]) 123 3 dX12_small_123 rfl rfl (by decide) rfl ?_
        refine j_goto 126 72 dX12_small_126 (by decide) ?_
        refine j_sub [1, 2, 3, 0] rfl ?_
        exact ih _ (x4 + 1)
      · refine j_aload_n 92 0 dX12_small_92 rfl rfl ?_
        refine j_getr (c2 := 76) (n2 := 0) 93 32 nX12_small_X12 rfl (by decide) (prs_mem (by decide) (by decide)) (by decide) (by decide) wX12_small_f79 (Or.inl rfl) rfl rfl rfl dX12_small_93 ?_
        refine j_iload 96 3 dX12_small_96 rfl ?_
        refine j_lald (c := 76) (n := 0) (L := 30) 98 (prs_mem (by decide) (by decide)) (by decide) rfl rfl rfl dX12_small_98 ?_
        refine j_lconst (v := 0) 99 dX12_small_99 (by decide) ?_
        refine j_lcmp 100 dX12_small_100 ?_
        refine j_if_le 101 123 dX12_small_101 (by decide) (fun _ => ?_) (fun _ => ?_)
        · refine j_iinc (v := x4 + 1) (lv2 := [(4, .int (x4 + 1)), (0, .ref (ad 11 0)), (2, .int x2), (3, .int x3)]) 123 3 dX12_small_123 rfl rfl (by decide) rfl ?_
          refine j_goto 126 72 dX12_small_126 (by decide) ?_
          refine j_sub [1, 2, 3, 0] rfl ?_
          exact ih _ (x4 + 1)
        · refine j_aload_n 104 0 dX12_small_104 rfl rfl ?_
          refine j_getr (c2 := 76) (n2 := 0) 105 32 nX12_small_X12 rfl (by decide) (prs_mem (by decide) (by decide)) (by decide) (by decide) wX12_small_f79 (Or.inl rfl) rfl rfl rfl dX12_small_105 ?_
          refine j_iload 108 3 dX12_small_108 rfl ?_
          refine j_lald (c := 76) (n := 0) (L := 30) 110 (prs_mem (by decide) (by decide)) (by decide) rfl rfl rfl dX12_small_110 ?_
          refine j_iload_n 111 1 dX12_small_111 rfl rfl ?_
          refine j_i2l 112 dX12_small_112 ?_
          refine j_lmul 113 dX12_small_113 ?_
          refine j_ldc2 (v := 1000000000000) 114 dX12_small_114 wX12_small_c229 ?_
          refine j_lcmp 117 dX12_small_117 ?_
          refine j_if_ge 118 123 dX12_small_118 (by decide) (fun _ => ?_) (fun _ => ?_)
          · refine j_iinc (v := x4 + 1) (lv2 := [(4, .int (x4 + 1)), (0, .ref (ad 11 0)), (2, .int x2), (3, .int x3)]) 123 3 dX12_small_123 rfl rfl (by decide) rfl ?_
            refine j_goto 126 72 dX12_small_126 (by decide) ?_
            refine j_sub [1, 2, 3, 0] rfl ?_
            exact ih _ (x4 + 1)
          · refine j_iload_n 121 2 dX12_small_121 rfl rfl ?_
            exact j_iret 122 rfl dX12_small_122
set_option maxRecDepth 100000 in
set_option maxHeartbeats 4000000 in
theorem tX12_small_L57 {ad : Nat → Nat → Nat} (X : Ctx) (F : Nat) (x2 : Int32)   : ∀ (n : Nat) (γ : Nat → Nat) (x3 : Int32) (S : St), JJ X ad γ (RQm X ad 3 74 outei) (fcm outei) 3 74 cX12_small 5 RX12 wsX12_small (some .int) (fX12_small_L57 F x2 n x3 S) S 57 [(0, .ref (ad 11 0)), (2, .int x2), (3, .int x3)] [] := by
  intro n
  induction n with
  | zero => intro _ _ _; exact j_none
  | succ n ih =>
    intro γ x3 S
    rw [show fX12_small_L57 F x2 (n + 1) x3 S = fX12_small_b57 F x2 (fX12_small_L57 F x2 n) x3 S from rfl]
    unfold fX12_small_b57
    refine j_iload_n 57 2 dX12_small_57 rfl rfl ?_
    refine j_sipush (v := 200) 58 dX12_small_58 (by decide) ?_
    refine j_icmp_gt 61 135 dX12_small_61 (by decide) (fun _ => ?_) (fun _ => ?_)
    · refine j_bipush (v := (-4)) 135 dX12_small_135 (by decide) ?_
      exact j_iret 137 rfl dX12_small_137
    · refine j_aload_n 64 0 dX12_small_64 rfl rfl ?_
      refine j_iload_n 65 2 dX12_small_65 rfl rfl ?_
      refine j_callV_ev 66 rfl (by decide) (prs_mem (by decide) (by decide))  [.int x3] [] gX12_small_X12_goYear rfl eX12_goYear ⟨Nat.le_of_ble_eq_true rfl, Nat.le_of_ble_eq_true rfl⟩ rfl rfl (Nat.le_of_ble_eq_true rfl) dX12_small_66 (kX12_goYear F S x3) (fun b_5 γ => ?_)
      refine j_iconst (v := 0) 69 dX12_small_69 (by decide) ?_
      refine j_istore (lv2 := [(4, .int 0), (0, .ref (ad 11 0)), (2, .int x2), (3, .int x3)]) 70 dX12_small_70 (by decide) rfl ?_
      refine j_sub [1, 2, 3, 0] rfl ?_
      refine tX12_small_L72 X F b_5 x2 x3 _ (fun γ => ?_) F _ 0
      refine j_iinc (v := x3 + 1) (lv2 := [(3, .int (x3 + 1)), (0, .ref (ad 11 0)), (2, .int x2)]) 129 2 dX12_small_129 rfl rfl (by decide) rfl ?_
      refine j_goto 132 57 dX12_small_132 (by decide) ?_
      refine j_sub [1, 2, 0] rfl ?_
      exact ih _ (x3 + 1) b_5
set_option maxRecDepth 100000 in
set_option maxHeartbeats 4000000 in
theorem tX12_small {ad : Nat → Nat → Nat} (X : Ctx) (γ : Nat → Nat) (F : Nat) (S : St) (p1 : Int32) (p2 : Int32) : JJ X ad γ (RQm X ad 3 74 outei) (fcm outei) 3 74 cX12_small 5 RX12 wsX12_small (some .int) (fX12_small F S p1 p2) S 0 [(0, .ref (ad 11 0)), (1, .int p1), (2, .int p2)] [] := by
  unfold fX12_small
  refine j_aload_n 0 0 dX12_small_0 rfl rfl ?_
  refine j_iload_n 1 1 dX12_small_1 rfl rfl ?_
  refine j_callV_pi 2 rfl (by decide) (prs_mem (by decide) (by decide))  [.int p1] [] gX12_small_X12_isBlock rfl eX12_isBlock ⟨Nat.le_of_ble_eq_true rfl, Nat.le_of_ble_eq_true rfl⟩ rfl rfl (Nat.le_of_ble_eq_true rfl) dX12_small_2 (kX12_isBlock S p1) (fun b_1 γ => ?_)
  refine j_if_eq 5 20 dX12_small_5 (by decide) (fun _ => ?_) (fun _ => ?_)
  · refine j_iconst (v := (-1)) 20 dX12_small_20 (by decide) ?_
    exact j_iret 21 rfl dX12_small_21
  · refine j_iload_n 8 2 dX12_small_8 rfl rfl ?_
    refine j_i2l 9 dX12_small_9 ?_
    refine j_lconst (v := 1) 10 dX12_small_10 (by decide) ?_
    refine j_ldc2 (v := 1000000) 11 dX12_small_11 wX12_small_c196 ?_
    refine j_callS_pi 14  [.long p2.toInt64, .long 1, .long 1000000] [] gX12_small_X12_in rfl eX12_in ⟨Nat.le_of_ble_eq_true rfl, Nat.le_of_ble_eq_true rfl⟩ rfl rfl (Nat.le_of_ble_eq_true rfl) dX12_small_14 (kX12_in S p2.toInt64 1 1000000) (fun b_2 γ => ?_)
    refine j_if_ne 17 22 dX12_small_17 (by decide) (fun _ => ?_) (fun _ => ?_)
    · refine j_aload_n 22 0 dX12_small_22 rfl rfl ?_
      refine j_getr (c2 := 68) (n2 := 0) 23 21 nX12_small_X12 rfl (by decide) (prs_mem (by decide) (by decide)) (by decide) (by decide) wX12_small_f55 (Or.inl rfl) rfl rfl rfl dX12_small_23 ?_
      refine j_iload_n 26 1 dX12_small_26 rfl rfl ?_
      refine j_iald (c := 68) (n := 0) (L := 12) 27 (prs_mem (by decide) (by decide)) (by decide) rfl rfl rfl dX12_small_27 ?_
      refine j_if_ge 28 34 dX12_small_28 (by decide) (fun _ => ?_) (fun _ => ?_)
      · refine j_aload_n 34 0 dX12_small_34 rfl rfl ?_
        refine j_aload_n 35 0 dX12_small_35 rfl rfl ?_
        refine j_getr (c2 := 68) (n2 := 0) 36 21 nX12_small_X12 rfl (by decide) (prs_mem (by decide) (by decide)) (by decide) (by decide) wX12_small_f55 (Or.inl rfl) rfl rfl rfl dX12_small_36 ?_
        refine j_iload_n 39 1 dX12_small_39 rfl rfl ?_
        refine j_iald (c := 68) (n := 0) (L := 12) 40 (prs_mem (by decide) (by decide)) (by decide) rfl rfl rfl dX12_small_40 ?_
        refine j_aload_n 41 0 dX12_small_41 rfl rfl ?_
        refine j_getr (c2 := 69) (n2 := 0) 42 22 nX12_small_X12 rfl (by decide) (prs_mem (by decide) (by decide)) (by decide) (by decide) wX12_small_f58 (Or.inl rfl) rfl rfl rfl dX12_small_42 ?_
        refine j_iload_n 45 1 dX12_small_45 rfl rfl ?_
        refine j_iald (c := 69) (n := 0) (L := 12) 46 (prs_mem (by decide) (by decide)) (by decide) rfl rfl rfl dX12_small_46 ?_
        refine j_callV_ev 47 rfl (by decide) (prs_mem (by decide) (by decide))  [.int (gA S 68 0 p1.toNatClampNeg), .int (gA S 69 0 p1.toNatClampNeg)] [] gX12_small_X12_beginShares rfl eX12_beginShares ⟨Nat.le_of_ble_eq_true rfl, Nat.le_of_ble_eq_true rfl⟩ rfl rfl (Nat.le_of_ble_eq_true rfl) dX12_small_47 (kX12_beginShares F S (gA S 68 0 p1.toNatClampNeg) (gA S 69 0 p1.toNatClampNeg)) (fun b_3 γ => ?_)
        refine j_aload_n 50 0 dX12_small_50 rfl rfl ?_
        refine j_getr (c2 := 69) (n2 := 0) 51 22 nX12_small_X12 rfl (by decide) (prs_mem (by decide) (by decide)) (by decide) (by decide) wX12_small_f58 (Or.inl rfl) rfl rfl rfl dX12_small_51 ?_
        refine j_iload_n 54 1 dX12_small_54 rfl rfl ?_
        refine j_iald (c := 69) (n := 0) (L := 12) 55 (prs_mem (by decide) (by decide)) (by decide) rfl rfl rfl dX12_small_55 ?_
        refine j_bndi (fun x3_4 => ?_)
        refine j_istore_n (lv2 := [(3, .int x3_4), (0, .ref (ad 11 0)), (1, .int p1), (2, .int p2)]) 56 dX12_small_56 rfl (by decide) rfl ?_
        refine j_sub [1, 3, 0] rfl ?_
        exact tX12_small_L57 X F p2 F _ x3_4 b_3
      · refine j_bipush (v := (-2)) 31 dX12_small_31 (by decide) ?_
        exact j_iret 33 rfl dX12_small_33
    · refine j_iconst (v := (-1)) 20 dX12_small_20 (by decide) ?_
      exact j_iret 21 rfl dX12_small_21
set_option maxRecDepth 100000 in
set_option maxHeartbeats 4000000 in
theorem kX12_small {ad : Nat → Nat → Nat} (F : Nat) (S : St) (p1 : Int32) (p2 : Int32) : ∀ b, fX12_small F S p1 p2 = some b → ∀ l dC dI cy, CT l dC dI cy ad yX12_small wsX12_small 3 74 [.ref (ad 11 0), .int p1, .int p2] S (some (.int b.1)) b.2 :=
  fun b hb l dC dI cy => ct_of (l := l) (dC := dC) (dI := dI) (cy := cy) outei (by decide) rfl (Nat.le_of_ble_eq_true rfl) rfl (fun X γ => tX12_small X γ F S p1 p2) b hb
-- X12_claim
theorem nX12_claim_X12 : ∀ w ∈ u_ws RX12 TX12 40, w ∈ wsX12_claim := by decide +kernel
theorem wX12_claim_c253 : Cond.constantLong RX12 253 (100) ∈ wsX12_claim := by decide +kernel
theorem wX12_claim_c134 : Cond.constantLong RX12 134 (5) ∈ wsX12_claim := by decide +kernel
theorem wX12_claim_c114 : Cond.constantLong RX12 114 (255) ∈ wsX12_claim := by decide +kernel
theorem wX12_claim_c255 : Cond.constantLong RX12 255 (1000) ∈ wsX12_claim := by decide +kernel
theorem wX12_claim_f257 : Cond.fieldLink RX12 257 "TwoTonguesModel" "claimMany" "I" ∈ wsX12_claim := by decide +kernel
theorem wX12_claim_f61 : Cond.fieldLink RX12 61 "TwoTonguesModel" "claims" "[I" ∈ wsX12_claim := by decide +kernel
set_option maxRecDepth 100000 in
set_option maxHeartbeats 4000000 in
theorem tX12_claim {ad : Nat → Nat → Nat} (X : Ctx) (γ : Nat → Nat) (S : St) (p1 : Int32) (p2 : Int32) (p3 : Int32) (p4 : Int32) (p5 : Int32) (p6 : Int32) : JJ X ad γ (RQm X ad 2 46 outei) (fcm outei) 2 46 cX12_claim 8 RX12 wsX12_claim (some .int) (fX12_claim S p1 p2 p3 p4 p5 p6) S 0 [(0, .ref (ad 11 0)), (1, .int p1), (2, .int p2), (3, .int p3), (4, .int p4), (5, .int p5), (6, .int p6)] [] := by
  unfold fX12_claim
  refine j_iload_n 0 1 dX12_claim_0 rfl rfl ?_
  refine j_callS_pi 1  [.int p1] [] gX12_claim_X12_isKin rfl eX12_isKin ⟨Nat.le_of_ble_eq_true rfl, Nat.le_of_ble_eq_true rfl⟩ rfl rfl (Nat.le_of_ble_eq_true rfl) dX12_claim_1 (kX12_isKin S p1) (fun b_1 γ => ?_)
  refine j_if_eq 4 66 dX12_claim_4 (by decide) (fun _ => ?_) (fun _ => ?_)
  · refine j_iconst (v := (-1)) 66 dX12_claim_66 (by decide) ?_
    exact j_iret 67 rfl dX12_claim_67
  · refine j_iload_n 7 2 dX12_claim_7 rfl rfl ?_
    refine j_i2l 8 dX12_claim_8 ?_
    refine j_lconst (v := 1) 9 dX12_claim_9 (by decide) ?_
    refine j_ldc2 (v := 100) 10 dX12_claim_10 wX12_claim_c253 ?_
    refine j_callS_pi 13  [.long p2.toInt64, .long 1, .long 100] [] gX12_claim_X12_in rfl eX12_in ⟨Nat.le_of_ble_eq_true rfl, Nat.le_of_ble_eq_true rfl⟩ rfl rfl (Nat.le_of_ble_eq_true rfl) dX12_claim_13 (kX12_in S p2.toInt64 1 100) (fun b_2 γ => ?_)
    refine j_if_eq 16 66 dX12_claim_16 (by decide) (fun _ => ?_) (fun _ => ?_)
    · refine j_iconst (v := (-1)) 66 dX12_claim_66 (by decide) ?_
      exact j_iret 67 rfl dX12_claim_67
    · refine j_aload_n 19 0 dX12_claim_19 rfl rfl ?_
      refine j_iload_n 20 3 dX12_claim_20 rfl rfl ?_
      refine j_callV_pi 21 rfl (by decide) (prs_mem (by decide) (by decide))  [.int p3] [] gX12_claim_X12_isPerson rfl eX12_isPerson ⟨Nat.le_of_ble_eq_true rfl, Nat.le_of_ble_eq_true rfl⟩ rfl rfl (Nat.le_of_ble_eq_true rfl) dX12_claim_21 (kX12_isPerson S p3) (fun b_3 γ => ?_)
      refine j_if_eq 24 66 dX12_claim_24 (by decide) (fun _ => ?_) (fun _ => ?_)
      · refine j_iconst (v := (-1)) 66 dX12_claim_66 (by decide) ?_
        exact j_iret 67 rfl dX12_claim_67
      · refine j_iload 27 4 dX12_claim_27 rfl ?_
        refine j_i2l 29 dX12_claim_29 ?_
        refine j_lconst (v := 1) 30 dX12_claim_30 (by decide) ?_
        refine j_ldc2 (v := 5) 31 dX12_claim_31 wX12_claim_c134 ?_
        refine j_callS_pi 34  [.long p4.toInt64, .long 1, .long 5] [] gX12_claim_X12_in rfl eX12_in ⟨Nat.le_of_ble_eq_true rfl, Nat.le_of_ble_eq_true rfl⟩ rfl rfl (Nat.le_of_ble_eq_true rfl) dX12_claim_34 (kX12_in S p4.toInt64 1 5) (fun b_4 γ => ?_)
        refine j_if_eq 37 66 dX12_claim_37 (by decide) (fun _ => ?_) (fun _ => ?_)
        · refine j_iconst (v := (-1)) 66 dX12_claim_66 (by decide) ?_
          exact j_iret 67 rfl dX12_claim_67
        · refine j_iload 40 5 dX12_claim_40 rfl ?_
          refine j_i2l 42 dX12_claim_42 ?_
          refine j_lconst (v := 0) 43 dX12_claim_43 (by decide) ?_
          refine j_ldc2 (v := 255) 44 dX12_claim_44 wX12_claim_c114 ?_
          refine j_callS_pi 47  [.long p5.toInt64, .long 0, .long 255] [] gX12_claim_X12_in rfl eX12_in ⟨Nat.le_of_ble_eq_true rfl, Nat.le_of_ble_eq_true rfl⟩ rfl rfl (Nat.le_of_ble_eq_true rfl) dX12_claim_47 (kX12_in S p5.toInt64 0 255) (fun b_5 γ => ?_)
          refine j_if_eq 50 66 dX12_claim_50 (by decide) (fun _ => ?_) (fun _ => ?_)
          · refine j_iconst (v := (-1)) 66 dX12_claim_66 (by decide) ?_
            exact j_iret 67 rfl dX12_claim_67
          · refine j_iload 53 6 dX12_claim_53 rfl ?_
            refine j_i2l 55 dX12_claim_55 ?_
            refine j_lconst (v := 1) 56 dX12_claim_56 (by decide) ?_
            refine j_ldc2 (v := 1000) 57 dX12_claim_57 wX12_claim_c255 ?_
            refine j_callS_pi 60  [.long p6.toInt64, .long 1, .long 1000] [] gX12_claim_X12_in rfl eX12_in ⟨Nat.le_of_ble_eq_true rfl, Nat.le_of_ble_eq_true rfl⟩ rfl rfl (Nat.le_of_ble_eq_true rfl) dX12_claim_60 (kX12_in S p6.toInt64 1 1000) (fun b_6 γ => ?_)
            refine j_if_ne 63 68 dX12_claim_63 (by decide) (fun _ => ?_) (fun _ => ?_)
            · refine j_aload_n 68 0 dX12_claim_68 rfl rfl ?_
              refine j_geti 69 23 nX12_claim_X12 rfl (by decide) (prs_mem (by decide) (by decide)) (by decide) (by decide) wX12_claim_f257 (Or.inl rfl) rfl dX12_claim_69 ?_
              refine j_bipush (v := 9) 72 dX12_claim_72 (by decide) ?_
              refine j_icmp_ne 74 80 dX12_claim_74 (by decide) (fun _ => ?_) (fun _ => ?_)
              · refine j_bipush (v := 6) 80 dX12_claim_80 (by decide) ?_
                refine j_aload_n 82 0 dX12_claim_82 rfl rfl ?_
                refine j_geti 83 23 nX12_claim_X12 rfl (by decide) (prs_mem (by decide) (by decide)) (by decide) (by decide) wX12_claim_f257 (Or.inl rfl) rfl dX12_claim_83 ?_
                refine j_imul 86 dX12_claim_86 ?_
                refine j_bndi (fun x7_7 => ?_)
                refine j_istore (lv2 := [(7, .int x7_7), (0, .ref (ad 11 0)), (1, .int p1), (2, .int p2), (3, .int p3), (4, .int p4), (5, .int p5), (6, .int p6)]) 87 dX12_claim_87 (by decide) rfl ?_
                refine j_aload_n 89 1 dX12_claim_89 rfl rfl ?_
                refine j_getr (c2 := 70) (n2 := 0) 90 24 nX12_claim_X12 rfl (by decide) (prs_mem (by decide) (by decide)) (by decide) (by decide) wX12_claim_f61 (Or.inl rfl) rfl rfl rfl dX12_claim_90 ?_
                refine j_iload 93 0 dX12_claim_93 rfl ?_
                refine j_iload_n 95 2 dX12_claim_95 rfl rfl ?_
                refine j_iast (c := 70) (n := 0) (L := 54) 96 (prs_mem (by decide) (by decide)) (by decide) rfl rfl rfl dX12_claim_96 (j_bs (fun S_8 => ?_))
                refine j_aload_n 97 1 dX12_claim_97 rfl rfl ?_
                refine j_getr (c2 := 70) (n2 := 0) 98 24 nX12_claim_X12 rfl (by decide) (prs_mem (by decide) (by decide)) (by decide) (by decide) wX12_claim_f61 (Or.inl rfl) rfl rfl rfl dX12_claim_98 ?_
                refine j_iload 101 0 dX12_claim_101 rfl ?_
                refine j_iconst (v := 1) 103 dX12_claim_103 (by decide) ?_
                refine j_iadd 104 dX12_claim_104 ?_
                refine j_iload_n 105 3 dX12_claim_105 rfl rfl ?_
                refine j_iast (c := 70) (n := 0) (L := 54) 106 (prs_mem (by decide) (by decide)) (by decide) rfl rfl rfl dX12_claim_106 (j_bs (fun S_9 => ?_))
                refine j_aload_n 107 1 dX12_claim_107 rfl rfl ?_
                refine j_getr (c2 := 70) (n2 := 0) 108 24 nX12_claim_X12 rfl (by decide) (prs_mem (by decide) (by decide)) (by decide) (by decide) wX12_claim_f61 (Or.inl rfl) rfl rfl rfl dX12_claim_108 ?_
                refine j_iload 111 0 dX12_claim_111 rfl ?_
                refine j_iconst (v := 2) 113 dX12_claim_113 (by decide) ?_
                refine j_iadd 114 dX12_claim_114 ?_
                refine j_iload_n 115 4 dX12_claim_115 rfl rfl ?_
                refine j_iast (c := 70) (n := 0) (L := 54) 116 (prs_mem (by decide) (by decide)) (by decide) rfl rfl rfl dX12_claim_116 (j_bs (fun S_10 => ?_))
                refine j_aload_n 117 1 dX12_claim_117 rfl rfl ?_
                refine j_getr (c2 := 70) (n2 := 0) 118 24 nX12_claim_X12 rfl (by decide) (prs_mem (by decide) (by decide)) (by decide) (by decide) wX12_claim_f61 (Or.inl rfl) rfl rfl rfl dX12_claim_118 ?_
                refine j_iload 121 0 dX12_claim_121 rfl ?_
                refine j_iconst (v := 3) 123 dX12_claim_123 (by decide) ?_
                refine j_iadd 124 dX12_claim_124 ?_
                refine j_iload 125 5 dX12_claim_125 rfl ?_
                refine j_iast (c := 70) (n := 0) (L := 54) 127 (prs_mem (by decide) (by decide)) (by decide) rfl rfl rfl dX12_claim_127 (j_bs (fun S_11 => ?_))
                refine j_aload_n 128 1 dX12_claim_128 rfl rfl ?_
                refine j_getr (c2 := 70) (n2 := 0) 129 24 nX12_claim_X12 rfl (by decide) (prs_mem (by decide) (by decide)) (by decide) (by decide) wX12_claim_f61 (Or.inl rfl) rfl rfl rfl dX12_claim_129 ?_
                refine j_iload 132 0 dX12_claim_132 rfl ?_
                refine j_iconst (v := 4) 134 dX12_claim_134 (by decide) ?_
                refine j_iadd 135 dX12_claim_135 ?_
                refine j_iload 136 6 dX12_claim_136 rfl ?_
                refine j_iast (c := 70) (n := 0) (L := 54) 138 (prs_mem (by decide) (by decide)) (by decide) rfl rfl rfl dX12_claim_138 (j_bs (fun S_12 => ?_))
                refine j_aload_n 139 1 dX12_claim_139 rfl rfl ?_
                refine j_getr (c2 := 70) (n2 := 0) 140 24 nX12_claim_X12 rfl (by decide) (prs_mem (by decide) (by decide)) (by decide) (by decide) wX12_claim_f61 (Or.inl rfl) rfl rfl rfl dX12_claim_140 ?_
                refine j_iload 143 0 dX12_claim_143 rfl ?_
                refine j_iconst (v := 5) 145 dX12_claim_145 (by decide) ?_
                refine j_iadd 146 dX12_claim_146 ?_
                refine j_iload 147 7 dX12_claim_147 rfl ?_
                refine j_iast (c := 70) (n := 0) (L := 54) 149 (prs_mem (by decide) (by decide)) (by decide) rfl rfl rfl dX12_claim_149 (j_bs (fun S_13 => ?_))
                refine j_aload_n 150 1 dX12_claim_150 rfl rfl ?_
                refine j_dup 151 dX12_claim_151 rfl ?_
                refine j_geti 152 23 nX12_claim_X12 rfl (by decide) (prs_mem (by decide) (by decide)) (by decide) (by decide) wX12_claim_f257 (Or.inl rfl) rfl dX12_claim_152 ?_
                refine j_iconst (v := 1) 155 dX12_claim_155 (by decide) ?_
                refine j_iadd 156 dX12_claim_156 ?_
                refine j_puti 157 23 nX12_claim_X12 rfl (by decide) (prs_mem (by decide) (by decide)) (by decide) (by decide) wX12_claim_f257 (Or.inl rfl) tyX12 tyX12_ok nmX12 rfl (by decide) rfl dX12_claim_157 (j_bs (fun S_14 => ?_))
                refine j_aload_n 160 1 dX12_claim_160 rfl rfl ?_
                refine j_geti 161 23 nX12_claim_X12 rfl (by decide) (prs_mem (by decide) (by decide)) (by decide) (by decide) wX12_claim_f257 (Or.inl rfl) rfl dX12_claim_161 ?_
                refine j_iconst (v := 1) 164 dX12_claim_164 (by decide) ?_
                refine j_isub 165 dX12_claim_165 ?_
                exact j_iret 166 rfl dX12_claim_166
              · refine j_bipush (v := (-3)) 77 dX12_claim_77 (by decide) ?_
                exact j_iret 79 rfl dX12_claim_79
            · refine j_iconst (v := (-1)) 66 dX12_claim_66 (by decide) ?_
              exact j_iret 67 rfl dX12_claim_67
set_option maxRecDepth 100000 in
set_option maxHeartbeats 4000000 in
theorem kX12_claim {ad : Nat → Nat → Nat} (S : St) (p1 : Int32) (p2 : Int32) (p3 : Int32) (p4 : Int32) (p5 : Int32) (p6 : Int32) : ∀ b, fX12_claim S p1 p2 p3 p4 p5 p6 = some b → ∀ l dC dI cy, CT l dC dI cy ad yX12_claim wsX12_claim 2 46 [.ref (ad 11 0), .int p1, .int p2, .int p3, .int p4, .int p5, .int p6] S (some (.int b.1)) b.2 :=
  fun b hb l dC dI cy => ct_of (l := l) (dC := dC) (dI := dI) (cy := cy) outei (by decide) rfl (Nat.le_of_ble_eq_true rfl) rfl (fun X γ => tX12_claim X γ S p1 p2 p3 p4 p5 p6) b hb
-- X12_foundedBy
theorem nX12_foundedBy_X12 : ∀ w ∈ u_ws RX12 TX12 40, w ∈ wsX12_foundedBy := by decide +kernel
theorem wX12_foundedBy_f257 : Cond.fieldLink RX12 257 "TwoTonguesModel" "claimMany" "I" ∈ wsX12_foundedBy := by decide +kernel
theorem wX12_foundedBy_f61 : Cond.fieldLink RX12 61 "TwoTonguesModel" "claims" "[I" ∈ wsX12_foundedBy := by decide +kernel
set_option maxRecDepth 100000 in
set_option maxHeartbeats 4000000 in
theorem tX12_foundedBy_L4 {ad : Nat → Nat → Nat} (X : Ctx) (F : Nat) (S : St) (x1 : Int32)   : ∀ (n : Nat) (γ : Nat → Nat) (x2 : Int32) (x3 : Int32), JJ X ad γ (RQm X ad 0 0 (outpi S)) (fcm (outpi S)) 0 0 cX12_foundedBy 4 RX12 wsX12_foundedBy (some .int) (fX12_foundedBy_L4 F S x1 n x2 x3) S 4 [(0, .ref (ad 11 0)), (1, .int x1), (2, .int x2), (3, .int x3)] [] := by
  intro n
  induction n with
  | zero => intro _ _ _; exact j_none
  | succ n ih =>
    intro γ x2 x3
    rw [show fX12_foundedBy_L4 F S x1 (n + 1) x2 x3 = fX12_foundedBy_b4 F S x1 (fX12_foundedBy_L4 F S x1 n) x2 x3 from rfl]
    unfold fX12_foundedBy_b4
    refine j_iload_n 4 3 dX12_foundedBy_4 rfl rfl ?_
    refine j_aload_n 5 0 dX12_foundedBy_5 rfl rfl ?_
    refine j_geti 6 23 nX12_foundedBy_X12 rfl (by decide) (prs_mem (by decide) (by decide)) (by decide) (by decide) wX12_foundedBy_f257 (Or.inl rfl) rfl dX12_foundedBy_6 ?_
    refine j_icmp_ge 9 46 dX12_foundedBy_9 (by decide) (fun _ => ?_) (fun _ => ?_)
    · refine j_iload_n 46 2 dX12_foundedBy_46 rfl rfl ?_
      exact j_iret 47 rfl dX12_foundedBy_47
    · refine j_iload_n 12 2 dX12_foundedBy_12 rfl rfl ?_
      refine j_aload_n 13 0 dX12_foundedBy_13 rfl rfl ?_
      refine j_getr (c2 := 70) (n2 := 0) 14 24 nX12_foundedBy_X12 rfl (by decide) (prs_mem (by decide) (by decide)) (by decide) (by decide) wX12_foundedBy_f61 (Or.inl rfl) rfl rfl rfl dX12_foundedBy_14 ?_
      refine j_bipush (v := 6) 17 dX12_foundedBy_17 (by decide) ?_
      refine j_iload_n 19 3 dX12_foundedBy_19 rfl rfl ?_
      refine j_imul 20 dX12_foundedBy_20 ?_
      refine j_iconst (v := 4) 21 dX12_foundedBy_21 (by decide) ?_
      refine j_iadd 22 dX12_foundedBy_22 ?_
      refine j_iald (c := 70) (n := 0) (L := 54) 23 (prs_mem (by decide) (by decide)) (by decide) rfl rfl rfl dX12_foundedBy_23 ?_
      refine j_iload_n 24 1 dX12_foundedBy_24 rfl rfl ?_
      refine j_iconst (v := (-1)) 25 dX12_foundedBy_25 (by decide) ?_
      refine j_ixor 26 dX12_foundedBy_26 ?_
      refine j_iand 27 dX12_foundedBy_27 ?_
      refine j_if_ne 28 37 dX12_foundedBy_28 (by decide) (fun _ => ?_) (fun _ => ?_)
      · refine j_iconst (v := 0) 37 dX12_foundedBy_37 (by decide) ?_
        refine j_ior 38 dX12_foundedBy_38 ?_
        refine j_bndi (fun x2_1 => ?_)
        refine j_istore_n (lv2 := [(2, .int x2_1), (0, .ref (ad 11 0)), (1, .int x1), (3, .int x3)]) 39 dX12_foundedBy_39 rfl (by decide) rfl ?_
        refine j_iinc (v := x3 + 1) (lv2 := [(3, .int (x3 + 1)), (2, .int x2_1), (0, .ref (ad 11 0)), (1, .int x1)]) 40 3 dX12_foundedBy_40 rfl rfl (by decide) rfl ?_
        refine j_goto 43 4 dX12_foundedBy_43 (by decide) ?_
        refine j_sub [2, 3, 1, 0] rfl ?_
        exact ih _ x2_1 (x3 + 1)
      · refine j_iconst (v := 1) 31 dX12_foundedBy_31 (by decide) ?_
        refine j_iload_n 32 3 dX12_foundedBy_32 rfl rfl ?_
        refine j_ishl 33 dX12_foundedBy_33 ?_
        refine j_goto 34 38 dX12_foundedBy_34 (by decide) ?_
        refine j_ior 38 dX12_foundedBy_38 ?_
        refine j_bndi (fun x2_2 => ?_)
        refine j_istore_n (lv2 := [(2, .int x2_2), (0, .ref (ad 11 0)), (1, .int x1), (3, .int x3)]) 39 dX12_foundedBy_39 rfl (by decide) rfl ?_
        refine j_iinc (v := x3 + 1) (lv2 := [(3, .int (x3 + 1)), (2, .int x2_2), (0, .ref (ad 11 0)), (1, .int x1)]) 40 3 dX12_foundedBy_40 rfl rfl (by decide) rfl ?_
        refine j_goto 43 4 dX12_foundedBy_43 (by decide) ?_
        refine j_sub [2, 3, 1, 0] rfl ?_
        exact ih _ x2_2 (x3 + 1)
set_option maxRecDepth 100000 in
set_option maxHeartbeats 4000000 in
theorem tX12_foundedBy {ad : Nat → Nat → Nat} (X : Ctx) (γ : Nat → Nat) (F : Nat) (S : St) (p1 : Int32) : JJ X ad γ (RQm X ad 0 0 (outpi S)) (fcm (outpi S)) 0 0 cX12_foundedBy 4 RX12 wsX12_foundedBy (some .int) (fX12_foundedBy F S p1) S 0 [(0, .ref (ad 11 0)), (1, .int p1)] [] := by
  unfold fX12_foundedBy
  refine j_iconst (v := 0) 0 dX12_foundedBy_0 (by decide) ?_
  refine j_istore_n (lv2 := [(2, .int 0), (0, .ref (ad 11 0)), (1, .int p1)]) 1 dX12_foundedBy_1 rfl (by decide) rfl ?_
  refine j_iconst (v := 0) 2 dX12_foundedBy_2 (by decide) ?_
  refine j_istore_n (lv2 := [(3, .int 0), (2, .int 0), (0, .ref (ad 11 0)), (1, .int p1)]) 3 dX12_foundedBy_3 rfl (by decide) rfl ?_
  refine j_sub [2, 3, 1, 0] rfl ?_
  exact tX12_foundedBy_L4 X F S p1 F _ 0 0
set_option maxRecDepth 100000 in
set_option maxHeartbeats 4000000 in
theorem kX12_foundedBy {ad : Nat → Nat → Nat} (F : Nat) (S : St) (p1 : Int32) : ∀ b, fX12_foundedBy F S p1 = some b → ∀ l dC dI cy, CT l dC dI cy ad yX12_foundedBy wsX12_foundedBy 0 0 [.ref (ad 11 0), .int p1] S (some (.int b)) S :=
  fun b hb l dC dI cy => ct_of (l := l) (dC := dC) (dI := dI) (cy := cy) (outpi S) (by decide) rfl (Nat.le_of_ble_eq_true rfl) rfl (fun X γ => tX12_foundedBy X γ F S p1) b hb
-- X12_founded
theorem wX12_founded_c114 : Cond.constantLong RX12 114 (255) ∈ wsX12_founded := by decide +kernel
set_option maxRecDepth 100000 in
set_option maxHeartbeats 4000000 in
theorem tX12_founded {ad : Nat → Nat → Nat} (X : Ctx) (γ : Nat → Nat) (F : Nat) (S : St) (p1 : Int32) : JJ X ad γ (RQm X ad 1 25 (outpi S)) (fcm (outpi S)) 1 25 cX12_founded 2 RX12 wsX12_founded (some .int) (fX12_founded F S p1) S 0 [(0, .ref (ad 11 0)), (1, .int p1)] [] := by
  unfold fX12_founded
  refine j_iload_n 0 1 dX12_founded_0 rfl rfl ?_
  refine j_i2l 1 dX12_founded_1 ?_
  refine j_lconst (v := 0) 2 dX12_founded_2 (by decide) ?_
  refine j_ldc2 (v := 255) 3 dX12_founded_3 wX12_founded_c114 ?_
  refine j_callS_pi 6  [.long p1.toInt64, .long 0, .long 255] [] gX12_founded_X12_in rfl eX12_in ⟨Nat.le_of_ble_eq_true rfl, Nat.le_of_ble_eq_true rfl⟩ rfl rfl (Nat.le_of_ble_eq_true rfl) dX12_founded_6 (kX12_in S p1.toInt64 0 255) (fun b_1 γ => ?_)
  refine j_if_eq 9 20 dX12_founded_9 (by decide) (fun _ => ?_) (fun _ => ?_)
  · refine j_iconst (v := (-1)) 20 dX12_founded_20 (by decide) ?_
    exact j_iret 21 rfl dX12_founded_21
  · refine j_aload_n 12 0 dX12_founded_12 rfl rfl ?_
    refine j_iload_n 13 1 dX12_founded_13 rfl rfl ?_
    refine j_callV_pi 14 rfl (by decide) (prs_mem (by decide) (by decide))  [.int p1] [] gX12_founded_X12_foundedBy rfl eX12_foundedBy ⟨Nat.le_of_ble_eq_true rfl, Nat.le_of_ble_eq_true rfl⟩ rfl rfl (Nat.le_of_ble_eq_true rfl) dX12_founded_14 (kX12_foundedBy F S p1) (fun b_2 γ => ?_)
    refine j_goto 17 21 dX12_founded_17 (by decide) ?_
    exact j_iret 21 rfl dX12_founded_21
set_option maxRecDepth 100000 in
set_option maxHeartbeats 4000000 in
theorem kX12_founded {ad : Nat → Nat → Nat} (F : Nat) (S : St) (p1 : Int32) : ∀ b, fX12_founded F S p1 = some b → ∀ l dC dI cy, CT l dC dI cy ad yX12_founded wsX12_founded 1 25 [.ref (ad 11 0), .int p1] S (some (.int b)) S :=
  fun b hb l dC dI cy => ct_of (l := l) (dC := dC) (dI := dI) (cy := cy) (outpi S) (by decide) rfl (Nat.le_of_ble_eq_true rfl) rfl (fun X γ => tX12_founded X γ F S p1) b hb
-- X12_falls
theorem nX12_falls_X12 : ∀ w ∈ u_ws RX12 TX12 40, w ∈ wsX12_falls := by decide +kernel
theorem wX12_falls_c114 : Cond.constantLong RX12 114 (255) ∈ wsX12_falls := by decide +kernel
theorem wX12_falls_c105 : Cond.constantLong RX12 105 (7) ∈ wsX12_falls := by decide +kernel
theorem wX12_falls_f257 : Cond.fieldLink RX12 257 "TwoTonguesModel" "claimMany" "I" ∈ wsX12_falls := by decide +kernel
theorem wX12_falls_f61 : Cond.fieldLink RX12 61 "TwoTonguesModel" "claims" "[I" ∈ wsX12_falls := by decide +kernel
set_option maxRecDepth 100000 in
set_option maxHeartbeats 4000000 in
theorem tX12_falls_L35 {ad : Nat → Nat → Nat} (X : Ctx) (F : Nat) (S : St) (x2 : Int32)   : ∀ (n : Nat) (γ : Nat → Nat) (x3 : Int32) (x4 : Int32), JJ X ad γ (RQm X ad 1 25 (outpi S)) (fcm (outpi S)) 1 25 cX12_falls 5 RX12 wsX12_falls (some .int) (fX12_falls_L35 F S x2 n x3 x4) S 35 [(0, .ref (ad 11 0)), (2, .int x2), (3, .int x3), (4, .int x4)] [] := by
  intro n
  induction n with
  | zero => intro _ _ _; exact j_none
  | succ n ih =>
    intro γ x3 x4
    rw [show fX12_falls_L35 F S x2 (n + 1) x3 x4 = fX12_falls_b35 F S x2 (fX12_falls_L35 F S x2 n) x3 x4 from rfl]
    unfold fX12_falls_b35
    refine j_iload 35 3 dX12_falls_35 rfl ?_
    refine j_aload_n 37 0 dX12_falls_37 rfl rfl ?_
    refine j_geti 38 23 nX12_falls_X12 rfl (by decide) (prs_mem (by decide) (by decide)) (by decide) (by decide) wX12_falls_f257 (Or.inl rfl) rfl dX12_falls_38 ?_
    refine j_icmp_ge 41 82 dX12_falls_41 (by decide) (fun _ => ?_) (fun _ => ?_)
    · refine j_iload_n 82 2 dX12_falls_82 rfl rfl ?_
      exact j_iret 83 rfl dX12_falls_83
    · refine j_iload_n 44 2 dX12_falls_44 rfl rfl ?_
      refine j_aload_n 45 0 dX12_falls_45 rfl rfl ?_
      refine j_getr (c2 := 70) (n2 := 0) 46 24 nX12_falls_X12 rfl (by decide) (prs_mem (by decide) (by decide)) (by decide) (by decide) wX12_falls_f61 (Or.inl rfl) rfl rfl rfl dX12_falls_46 ?_
      refine j_bipush (v := 6) 49 dX12_falls_49 (by decide) ?_
      refine j_iload 51 3 dX12_falls_51 rfl ?_
      refine j_imul 53 dX12_falls_53 ?_
      refine j_iconst (v := 4) 54 dX12_falls_54 (by decide) ?_
      refine j_iadd 55 dX12_falls_55 ?_
      refine j_iald (c := 70) (n := 0) (L := 54) 56 (prs_mem (by decide) (by decide)) (by decide) rfl rfl rfl dX12_falls_56 ?_
      refine j_iload_n 57 1 dX12_falls_57 rfl rfl ?_
      refine j_callS_pi 58  [.int (gA S 70 0 (((6 : Int32) * x4) + 4).toNatClampNeg), .int x2] [.int x3] gX12_falls_X12_has rfl eX12_has ⟨Nat.le_of_ble_eq_true rfl, Nat.le_of_ble_eq_true rfl⟩ rfl rfl (Nat.le_of_ble_eq_true rfl) dX12_falls_58 (kX12_has S (gA S 70 0 (((6 : Int32) * x4) + 4).toNatClampNeg) x2) (fun b_4 γ => ?_)
      refine j_if_eq 61 68 dX12_falls_61 (by decide) (fun _ => ?_) (fun _ => ?_)
      · refine j_iconst (v := 1) 68 dX12_falls_68 (by decide) ?_
        refine j_iload 69 3 dX12_falls_69 rfl ?_
        refine j_ishl 71 dX12_falls_71 ?_
        refine j_iconst (v := (-1)) 72 dX12_falls_72 (by decide) ?_
        refine j_ixor 73 dX12_falls_73 ?_
        refine j_iand 74 dX12_falls_74 ?_
        refine j_bndi (fun x3_5 => ?_)
        refine j_istore_n (lv2 := [(3, .int x3_5), (0, .ref (ad 11 0)), (2, .int x2), (4, .int x4)]) 75 dX12_falls_75 rfl (by decide) rfl ?_
        refine j_iinc (v := x4 + 1) (lv2 := [(4, .int (x4 + 1)), (3, .int x3_5), (0, .ref (ad 11 0)), (2, .int x2)]) 76 3 dX12_falls_76 rfl rfl (by decide) rfl ?_
        refine j_goto 79 35 dX12_falls_79 (by decide) ?_
        refine j_sub [2, 3, 1, 0] rfl ?_
        exact ih _ x3_5 (x4 + 1)
      · refine j_iconst (v := (-1)) 64 dX12_falls_64 (by decide) ?_
        refine j_goto 65 74 dX12_falls_65 (by decide) ?_
        refine j_iand 74 dX12_falls_74 ?_
        refine j_bndi (fun x3_6 => ?_)
        refine j_istore_n (lv2 := [(3, .int x3_6), (0, .ref (ad 11 0)), (2, .int x2), (4, .int x4)]) 75 dX12_falls_75 rfl (by decide) rfl ?_
        refine j_iinc (v := x4 + 1) (lv2 := [(4, .int (x4 + 1)), (3, .int x3_6), (0, .ref (ad 11 0)), (2, .int x2)]) 76 3 dX12_falls_76 rfl rfl (by decide) rfl ?_
        refine j_goto 79 35 dX12_falls_79 (by decide) ?_
        refine j_sub [2, 3, 1, 0] rfl ?_
        exact ih _ x3_6 (x4 + 1)
set_option maxRecDepth 100000 in
set_option maxHeartbeats 4000000 in
theorem tX12_falls {ad : Nat → Nat → Nat} (X : Ctx) (γ : Nat → Nat) (F : Nat) (S : St) (p1 : Int32) (p2 : Int32) : JJ X ad γ (RQm X ad 1 25 (outpi S)) (fcm (outpi S)) 1 25 cX12_falls 5 RX12 wsX12_falls (some .int) (fX12_falls F S p1 p2) S 0 [(0, .ref (ad 11 0)), (1, .int p1), (2, .int p2)] [] := by
  unfold fX12_falls
  refine j_iload_n 0 1 dX12_falls_0 rfl rfl ?_
  refine j_i2l 1 dX12_falls_1 ?_
  refine j_lconst (v := 0) 2 dX12_falls_2 (by decide) ?_
  refine j_ldc2 (v := 255) 3 dX12_falls_3 wX12_falls_c114 ?_
  refine j_callS_pi 6  [.long p1.toInt64, .long 0, .long 255] [] gX12_falls_X12_in rfl eX12_in ⟨Nat.le_of_ble_eq_true rfl, Nat.le_of_ble_eq_true rfl⟩ rfl rfl (Nat.le_of_ble_eq_true rfl) dX12_falls_6 (kX12_in S p1.toInt64 0 255) (fun b_1 γ => ?_)
  refine j_if_eq 9 24 dX12_falls_9 (by decide) (fun _ => ?_) (fun _ => ?_)
  · refine j_iconst (v := (-1)) 24 dX12_falls_24 (by decide) ?_
    exact j_iret 25 rfl dX12_falls_25
  · refine j_iload_n 12 2 dX12_falls_12 rfl rfl ?_
    refine j_i2l 13 dX12_falls_13 ?_
    refine j_lconst (v := 0) 14 dX12_falls_14 (by decide) ?_
    refine j_ldc2 (v := 7) 15 dX12_falls_15 wX12_falls_c105 ?_
    refine j_callS_pi 18  [.long p2.toInt64, .long 0, .long 7] [] gX12_falls_X12_in rfl eX12_in ⟨Nat.le_of_ble_eq_true rfl, Nat.le_of_ble_eq_true rfl⟩ rfl rfl (Nat.le_of_ble_eq_true rfl) dX12_falls_18 (kX12_in S p2.toInt64 0 7) (fun b_2 γ => ?_)
    refine j_if_ne 21 26 dX12_falls_21 (by decide) (fun _ => ?_) (fun _ => ?_)
    · refine j_aload_n 26 0 dX12_falls_26 rfl rfl ?_
      refine j_iload_n 27 1 dX12_falls_27 rfl rfl ?_
      refine j_callV_pi 28 rfl (by decide) (prs_mem (by decide) (by decide))  [.int p1] [] gX12_falls_X12_foundedBy rfl eX12_foundedBy ⟨Nat.le_of_ble_eq_true rfl, Nat.le_of_ble_eq_true rfl⟩ rfl rfl (Nat.le_of_ble_eq_true rfl) dX12_falls_28 (kX12_foundedBy F S p1) (fun b_3 γ => ?_)
      refine j_istore_n (lv2 := [(3, .int b_3), (0, .ref (ad 11 0)), (1, .int p1), (2, .int p2)]) 31 dX12_falls_31 rfl (by decide) rfl ?_
      refine j_iconst (v := 0) 32 dX12_falls_32 (by decide) ?_
      refine j_istore (lv2 := [(4, .int 0), (3, .int b_3), (0, .ref (ad 11 0)), (1, .int p1), (2, .int p2)]) 33 dX12_falls_33 (by decide) rfl ?_
      refine j_sub [2, 4, 1, 0] rfl ?_
      exact tX12_falls_L35 X F S p2 F _ b_3 0
    · refine j_iconst (v := (-1)) 24 dX12_falls_24 (by decide) ?_
      exact j_iret 25 rfl dX12_falls_25
set_option maxRecDepth 100000 in
set_option maxHeartbeats 4000000 in
theorem kX12_falls {ad : Nat → Nat → Nat} (F : Nat) (S : St) (p1 : Int32) (p2 : Int32) : ∀ b, fX12_falls F S p1 p2 = some b → ∀ l dC dI cy, CT l dC dI cy ad yX12_falls wsX12_falls 1 25 [.ref (ad 11 0), .int p1, .int p2] S (some (.int b)) S :=
  fun b hb l dC dI cy => ct_of (l := l) (dC := dC) (dI := dI) (cy := cy) (outpi S) (by decide) rfl (Nat.le_of_ble_eq_true rfl) rfl (fun X γ => tX12_falls X γ F S p1 p2) b hb
-- X12_sumOf
theorem nX12_sumOf_X12 : ∀ w ∈ u_ws RX12 TX12 40, w ∈ wsX12_sumOf := by decide +kernel
theorem wX12_sumOf_f257 : Cond.fieldLink RX12 257 "TwoTonguesModel" "claimMany" "I" ∈ wsX12_sumOf := by decide +kernel
theorem wX12_sumOf_f61 : Cond.fieldLink RX12 61 "TwoTonguesModel" "claims" "[I" ∈ wsX12_sumOf := by decide +kernel
set_option maxRecDepth 100000 in
set_option maxHeartbeats 4000000 in
theorem tX12_sumOf_L5 {ad : Nat → Nat → Nat} (X : Ctx) (F : Nat) (S : St) (x1 : Int32) (x2 : Int32)   : ∀ (n : Nat) (γ : Nat → Nat) (x3 : Int32) (x4 : Int32), JJ X ad γ (RQm X ad 1 21 (outpi S)) (fcm (outpi S)) 1 21 cX12_sumOf 5 RX12 wsX12_sumOf (some .int) (fX12_sumOf_L5 F S x1 x2 n x3 x4) S 5 [(0, .ref (ad 11 0)), (1, .int x1), (2, .int x2), (3, .int x3), (4, .int x4)] [] := by
  intro n
  induction n with
  | zero => intro _ _ _; exact j_none
  | succ n ih =>
    intro γ x3 x4
    rw [show fX12_sumOf_L5 F S x1 x2 (n + 1) x3 x4 = fX12_sumOf_b5 F S x1 x2 (fX12_sumOf_L5 F S x1 x2 n) x3 x4 from rfl]
    unfold fX12_sumOf_b5
    refine j_iload 5 4 dX12_sumOf_5 rfl ?_
    refine j_aload_n 7 0 dX12_sumOf_7 rfl rfl ?_
    refine j_geti 8 23 nX12_sumOf_X12 rfl (by decide) (prs_mem (by decide) (by decide)) (by decide) (by decide) wX12_sumOf_f257 (Or.inl rfl) rfl dX12_sumOf_8 ?_
    refine j_icmp_ge 11 48 dX12_sumOf_11 (by decide) (fun _ => ?_) (fun _ => ?_)
    · refine j_iload_n 48 3 dX12_sumOf_48 rfl rfl ?_
      exact j_iret 49 rfl dX12_sumOf_49
    · refine j_iload_n 14 3 dX12_sumOf_14 rfl rfl ?_
      refine j_iload_n 15 1 dX12_sumOf_15 rfl rfl ?_
      refine j_iload 16 4 dX12_sumOf_16 rfl ?_
      refine j_callS_pi 18  [.int x1, .int x4] [.int x3] gX12_sumOf_X12_has rfl eX12_has ⟨Nat.le_of_ble_eq_true rfl, Nat.le_of_ble_eq_true rfl⟩ rfl rfl (Nat.le_of_ble_eq_true rfl) dX12_sumOf_18 (kX12_has S x1 x4) (fun b_1 γ => ?_)
      refine j_if_eq 21 39 dX12_sumOf_21 (by decide) (fun _ => ?_) (fun _ => ?_)
      · refine j_iconst (v := 0) 39 dX12_sumOf_39 (by decide) ?_
        refine j_iadd 40 dX12_sumOf_40 ?_
        refine j_bndi (fun x3_2 => ?_)
        refine j_istore_n (lv2 := [(3, .int x3_2), (0, .ref (ad 11 0)), (1, .int x1), (2, .int x2), (4, .int x4)]) 41 dX12_sumOf_41 rfl (by decide) rfl ?_
        refine j_iinc (v := x4 + 1) (lv2 := [(4, .int (x4 + 1)), (3, .int x3_2), (0, .ref (ad 11 0)), (1, .int x1), (2, .int x2)]) 42 4 dX12_sumOf_42 rfl rfl (by decide) rfl ?_
        refine j_goto 45 5 dX12_sumOf_45 (by decide) ?_
        refine j_sub [2, 3, 4, 1, 0] rfl ?_
        exact ih _ x3_2 (x4 + 1)
      · refine j_aload_n 24 0 dX12_sumOf_24 rfl rfl ?_
        refine j_getr (c2 := 70) (n2 := 0) 25 24 nX12_sumOf_X12 rfl (by decide) (prs_mem (by decide) (by decide)) (by decide) (by decide) wX12_sumOf_f61 (Or.inl rfl) rfl rfl rfl dX12_sumOf_25 ?_
        refine j_bipush (v := 6) 28 dX12_sumOf_28 (by decide) ?_
        refine j_iload 30 4 dX12_sumOf_30 rfl ?_
        refine j_imul 32 dX12_sumOf_32 ?_
        refine j_iload_n 33 2 dX12_sumOf_33 rfl rfl ?_
        refine j_iadd 34 dX12_sumOf_34 ?_
        refine j_iald (c := 70) (n := 0) (L := 54) 35 (prs_mem (by decide) (by decide)) (by decide) rfl rfl rfl dX12_sumOf_35 ?_
        refine j_goto 36 40 dX12_sumOf_36 (by decide) ?_
        refine j_iadd 40 dX12_sumOf_40 ?_
        refine j_bndi (fun x3_3 => ?_)
        refine j_istore_n (lv2 := [(3, .int x3_3), (0, .ref (ad 11 0)), (1, .int x1), (2, .int x2), (4, .int x4)]) 41 dX12_sumOf_41 rfl (by decide) rfl ?_
        refine j_iinc (v := x4 + 1) (lv2 := [(4, .int (x4 + 1)), (3, .int x3_3), (0, .ref (ad 11 0)), (1, .int x1), (2, .int x2)]) 42 4 dX12_sumOf_42 rfl rfl (by decide) rfl ?_
        refine j_goto 45 5 dX12_sumOf_45 (by decide) ?_
        refine j_sub [2, 3, 4, 1, 0] rfl ?_
        exact ih _ x3_3 (x4 + 1)
set_option maxRecDepth 100000 in
set_option maxHeartbeats 4000000 in
theorem tX12_sumOf {ad : Nat → Nat → Nat} (X : Ctx) (γ : Nat → Nat) (F : Nat) (S : St) (p1 : Int32) (p2 : Int32) : JJ X ad γ (RQm X ad 1 21 (outpi S)) (fcm (outpi S)) 1 21 cX12_sumOf 5 RX12 wsX12_sumOf (some .int) (fX12_sumOf F S p1 p2) S 0 [(0, .ref (ad 11 0)), (1, .int p1), (2, .int p2)] [] := by
  unfold fX12_sumOf
  refine j_iconst (v := 0) 0 dX12_sumOf_0 (by decide) ?_
  refine j_istore_n (lv2 := [(3, .int 0), (0, .ref (ad 11 0)), (1, .int p1), (2, .int p2)]) 1 dX12_sumOf_1 rfl (by decide) rfl ?_
  refine j_iconst (v := 0) 2 dX12_sumOf_2 (by decide) ?_
  refine j_istore (lv2 := [(4, .int 0), (3, .int 0), (0, .ref (ad 11 0)), (1, .int p1), (2, .int p2)]) 3 dX12_sumOf_3 (by decide) rfl ?_
  refine j_sub [2, 3, 4, 1, 0] rfl ?_
  exact tX12_sumOf_L5 X F S p1 p2 F _ 0 0
set_option maxRecDepth 100000 in
set_option maxHeartbeats 4000000 in
theorem kX12_sumOf {ad : Nat → Nat → Nat} (F : Nat) (S : St) (p1 : Int32) (p2 : Int32) : ∀ b, fX12_sumOf F S p1 p2 = some b → ∀ l dC dI cy, CT l dC dI cy ad yX12_sumOf wsX12_sumOf 1 21 [.ref (ad 11 0), .int p1, .int p2] S (some (.int b)) S :=
  fun b hb l dC dI cy => ct_of (l := l) (dC := dC) (dI := dI) (cy := cy) (outpi S) (by decide) rfl (Nat.le_of_ble_eq_true rfl) rfl (fun X γ => tX12_sumOf X γ F S p1 p2) b hb
-- X12_heard
theorem nX12_heard_X12 : ∀ w ∈ u_ws RX12 TX12 40, w ∈ wsX12_heard := by decide +kernel
theorem wX12_heard_f61 : Cond.fieldLink RX12 61 "TwoTonguesModel" "claims" "[I" ∈ wsX12_heard := by decide +kernel
theorem wX12_heard_f34 : Cond.fieldLink RX12 34 "TwoTonguesModel" "dies" "[I" ∈ wsX12_heard := by decide +kernel
set_option maxRecDepth 100000 in
set_option maxHeartbeats 4000000 in
theorem tX12_heard {ad : Nat → Nat → Nat} (X : Ctx) (γ : Nat → Nat) (F : Nat) (S : St) (p1 : Int32) (p2 : Int32) (p3 : Int32) : JJ X ad γ (RQm X ad 2 45 (outpi S)) (fcm (outpi S)) 2 45 cX12_heard 5 RX12 wsX12_heard (some .int) (fX12_heard F S p1 p2 p3) S 0 [(0, .ref (ad 11 0)), (1, .int p1), (2, .int p2), (3, .int p3)] [] := by
  unfold fX12_heard
  refine j_iload_n 0 3 dX12_heard_0 rfl rfl ?_
  refine j_aload_n 1 0 dX12_heard_1 rfl rfl ?_
  refine j_iload_n 2 1 dX12_heard_2 rfl rfl ?_
  refine j_iconst (v := 3) 3 dX12_heard_3 (by decide) ?_
  refine j_callV_pi 4 rfl (by decide) (prs_mem (by decide) (by decide))  [.int p1, .int 3] [.int p3] gX12_heard_X12_sumOf rfl eX12_sumOf ⟨Nat.le_of_ble_eq_true rfl, Nat.le_of_ble_eq_true rfl⟩ rfl rfl (Nat.le_of_ble_eq_true rfl) dX12_heard_4 (kX12_sumOf F S p1 3) (fun b_1 γ => ?_)
  refine j_iadd 7 dX12_heard_7 ?_
  refine j_aload_n 8 0 dX12_heard_8 rfl rfl ?_
  refine j_getr (c2 := 70) (n2 := 0) 9 24 nX12_heard_X12 rfl (by decide) (prs_mem (by decide) (by decide)) (by decide) (by decide) wX12_heard_f61 (Or.inl rfl) rfl rfl rfl dX12_heard_9 ?_
  refine j_bipush (v := 6) 12 dX12_heard_12 (by decide) ?_
  refine j_iload_n 14 2 dX12_heard_14 rfl rfl ?_
  refine j_imul 15 dX12_heard_15 ?_
  refine j_iconst (v := 3) 16 dX12_heard_16 (by decide) ?_
  refine j_iadd 17 dX12_heard_17 ?_
  refine j_iald (c := 70) (n := 0) (L := 54) 18 (prs_mem (by decide) (by decide)) (by decide) rfl rfl rfl dX12_heard_18 ?_
  refine j_iadd 19 dX12_heard_19 ?_
  refine j_iconst (v := 1) 20 dX12_heard_20 (by decide) ?_
  refine j_isub 21 dX12_heard_21 ?_
  refine j_bndi (fun x4_2 => ?_)
  refine j_istore (lv2 := [(4, .int x4_2), (0, .ref (ad 11 0)), (1, .int p1), (2, .int p2), (3, .int p3)]) 22 dX12_heard_22 (by decide) rfl ?_
  refine j_aload_n 24 1 dX12_heard_24 rfl rfl ?_
  refine j_getr (c2 := 61) (n2 := 0) 25 9 nX12_heard_X12 rfl (by decide) (prs_mem (by decide) (by decide)) (by decide) (by decide) wX12_heard_f34 (Or.inl rfl) rfl rfl rfl dX12_heard_25 ?_
  refine j_aload_n 28 1 dX12_heard_28 rfl rfl ?_
  refine j_getr (c2 := 70) (n2 := 0) 29 24 nX12_heard_X12 rfl (by decide) (prs_mem (by decide) (by decide)) (by decide) (by decide) wX12_heard_f61 (Or.inl rfl) rfl rfl rfl dX12_heard_29 ?_
  refine j_bipush (v := 6) 32 dX12_heard_32 (by decide) ?_
  refine j_iload_n 34 3 dX12_heard_34 rfl rfl ?_
  refine j_imul 35 dX12_heard_35 ?_
  refine j_iconst (v := 2) 36 dX12_heard_36 (by decide) ?_
  refine j_iadd 37 dX12_heard_37 ?_
  refine j_iald (c := 70) (n := 0) (L := 54) 38 (prs_mem (by decide) (by decide)) (by decide) rfl rfl rfl dX12_heard_38 ?_
  refine j_iald (c := 61) (n := 0) (L := 30) 39 (prs_mem (by decide) (by decide)) (by decide) rfl rfl rfl dX12_heard_39 ?_
  refine j_iload 40 0 dX12_heard_40 rfl ?_
  refine j_icmp_le 42 59 dX12_heard_42 (by decide) (fun _ => ?_) (fun _ => ?_)
  · refine j_iconst (v := 0) 59 dX12_heard_59 (by decide) ?_
    exact j_iret 60 rfl dX12_heard_60
  · refine j_aload_n 45 1 dX12_heard_45 rfl rfl ?_
    refine j_getr (c2 := 70) (n2 := 0) 46 24 nX12_heard_X12 rfl (by decide) (prs_mem (by decide) (by decide)) (by decide) (by decide) wX12_heard_f61 (Or.inl rfl) rfl rfl rfl dX12_heard_46 ?_
    refine j_bipush (v := 6) 49 dX12_heard_49 (by decide) ?_
    refine j_iload_n 51 3 dX12_heard_51 rfl rfl ?_
    refine j_imul 52 dX12_heard_52 ?_
    refine j_iconst (v := 1) 53 dX12_heard_53 (by decide) ?_
    refine j_iadd 54 dX12_heard_54 ?_
    refine j_iald (c := 70) (n := 0) (L := 54) 55 (prs_mem (by decide) (by decide)) (by decide) rfl rfl rfl dX12_heard_55 ?_
    refine j_goto 56 60 dX12_heard_56 (by decide) ?_
    exact j_iret 60 rfl dX12_heard_60
set_option maxRecDepth 100000 in
set_option maxHeartbeats 4000000 in
theorem kX12_heard {ad : Nat → Nat → Nat} (F : Nat) (S : St) (p1 : Int32) (p2 : Int32) (p3 : Int32) : ∀ b, fX12_heard F S p1 p2 p3 = some b → ∀ l dC dI cy, CT l dC dI cy ad yX12_heard wsX12_heard 2 45 [.ref (ad 11 0), .int p1, .int p2, .int p3] S (some (.int b)) S :=
  fun b hb l dC dI cy => ct_of (l := l) (dC := dC) (dI := dI) (cy := cy) (outpi S) (by decide) rfl (Nat.le_of_ble_eq_true rfl) rfl (fun X γ => tX12_heard X γ F S p1 p2 p3) b hb
-- X12_hear
theorem nX12_hear_X12 : ∀ w ∈ u_ws RX12 TX12 40, w ∈ wsX12_hear := by decide +kernel
theorem wX12_hear_f257 : Cond.fieldLink RX12 257 "TwoTonguesModel" "claimMany" "I" ∈ wsX12_hear := by decide +kernel
theorem wX12_hear_f89 : Cond.fieldLink RX12 89 "TwoTonguesModel" "best" "[I" ∈ wsX12_hear := by decide +kernel
set_option maxRecDepth 100000 in
set_option maxHeartbeats 4000000 in
theorem tX12_hear_j124 {ad : Nat → Nat → Nat} (X : Ctx) (γ : Nat → Nat) (F : Nat) (S : St) (x1 : Int32) (x2 : Int32) (x4 : Int32) (x5 : Int32) (s0 : Int32) (s1 : Int32) (rec : Int32 → St → Option (Int32 × St))  (ih : ∀ (γ : Nat → Nat) (x5 : Int32) (S : St), JJ X ad γ (RQm X ad 3 69 outei) (fcm outei) 3 69 cX12_hear 8 RX12 wsX12_hear (some .int) (rec x5 S) S 51 [(0, .ref (ad 11 0)), (1, .int x1), (2, .int x2), (4, .int x4), (5, .int x5)] []) : JJ X ad γ (RQm X ad 3 69 outei) (fcm outei) 3 69 cX12_hear 8 RX12 wsX12_hear (some .int) (fX12_hear_j124 F S x1 x2 x4 x5 s0 s1 rec) S 124 [(0, .ref (ad 11 0)), (1, .int x1), (2, .int x2), (4, .int x4), (5, .int x5)] [.int s0, .int s1, .ref (ad 79 0)] := by
  unfold fX12_hear_j124
  refine j_iast (c := 79) (n := 0) (L := 512) 124 (prs_mem (by decide) (by decide)) (by decide) rfl rfl rfl dX12_hear_124 (j_bs (fun S_9 => ?_))
  refine j_iinc (v := x5 + 1) (lv2 := [(5, .int (x5 + 1)), (0, .ref (ad 11 0)), (1, .int x1), (2, .int x2), (4, .int x4)]) 125 4 dX12_hear_125 rfl rfl (by decide) rfl ?_
  refine j_goto 128 51 dX12_hear_128 (by decide) ?_
  refine j_sub [1, 2, 3, 4, 0] rfl ?_
  exact ih _ (x5 + 1) S_9
set_option maxRecDepth 100000 in
set_option maxHeartbeats 4000000 in
theorem tX12_hear_L51 {ad : Nat → Nat → Nat} (X : Ctx) (F : Nat) (x1 : Int32) (x2 : Int32) (x4 : Int32) (k131 : St → Option (Int32 × St))  (hk131 : ∀ (γ : Nat → Nat) (S : St), JJ X ad γ (RQm X ad 3 69 outei) (fcm outei) 3 69 cX12_hear 8 RX12 wsX12_hear (some .int) (k131 S) S 131 [(0, .ref (ad 11 0)), (1, .int x1), (2, .int x2), (4, .int x4)] []) : ∀ (n : Nat) (γ : Nat → Nat) (x5 : Int32) (S : St), JJ X ad γ (RQm X ad 3 69 outei) (fcm outei) 3 69 cX12_hear 8 RX12 wsX12_hear (some .int) (fX12_hear_L51 F x1 x2 x4 k131 n x5 S) S 51 [(0, .ref (ad 11 0)), (1, .int x1), (2, .int x2), (4, .int x4), (5, .int x5)] [] := by
  intro n
  induction n with
  | zero => intro _ _ _; exact j_none
  | succ n ih =>
    intro γ x5 S
    rw [show fX12_hear_L51 F x1 x2 x4 k131 (n + 1) x5 S = fX12_hear_b51 F x1 x2 x4 k131 (fX12_hear_L51 F x1 x2 x4 k131 n) x5 S from rfl]
    unfold fX12_hear_b51
    refine j_iload 51 4 dX12_hear_51 rfl ?_
    refine j_aload_n 53 0 dX12_hear_53 rfl rfl ?_
    refine j_geti 54 23 nX12_hear_X12 rfl (by decide) (prs_mem (by decide) (by decide)) (by decide) (by decide) wX12_hear_f257 (Or.inl rfl) rfl dX12_hear_54 ?_
    refine j_icmp_ge 57 131 dX12_hear_57 (by decide) (fun _ => ?_) (fun _ => ?_)
    · refine j_sub [0, 1, 2, 3] rfl ?_
      exact hk131 _ S
    · refine j_iload 60 3 dX12_hear_60 rfl ?_
      refine j_iload 62 4 dX12_hear_62 rfl ?_
      refine j_callS_pi 64  [.int x4, .int x5] [] gX12_hear_X12_has rfl eX12_has ⟨Nat.le_of_ble_eq_true rfl, Nat.le_of_ble_eq_true rfl⟩ rfl rfl (Nat.le_of_ble_eq_true rfl) dX12_hear_64 (kX12_has S x4 x5) (fun b_6 γ => ?_)
      refine j_if_ne 67 125 dX12_hear_67 (by decide) (fun _ => ?_) (fun _ => ?_)
      · refine j_iinc (v := x5 + 1) (lv2 := [(5, .int (x5 + 1)), (0, .ref (ad 11 0)), (1, .int x1), (2, .int x2), (4, .int x4)]) 125 4 dX12_hear_125 rfl rfl (by decide) rfl ?_
        refine j_goto 128 51 dX12_hear_128 (by decide) ?_
        refine j_sub [1, 2, 3, 4, 0] rfl ?_
        exact ih _ (x5 + 1) S
      · refine j_aload_n 70 0 dX12_hear_70 rfl rfl ?_
        refine j_iload 71 3 dX12_hear_71 rfl ?_
        refine j_iload 73 4 dX12_hear_73 rfl ?_
        refine j_iload_n 75 1 dX12_hear_75 rfl rfl ?_
        refine j_callV_pi 76 rfl (by decide) (prs_mem (by decide) (by decide))  [.int x4, .int x5, .int x1] [] gX12_hear_X12_heard rfl eX12_heard ⟨Nat.le_of_ble_eq_true rfl, Nat.le_of_ble_eq_true rfl⟩ rfl rfl (Nat.le_of_ble_eq_true rfl) dX12_hear_76 (kX12_heard F S x4 x5 x1) (fun b_7 γ => ?_)
        refine j_aload_n 79 0 dX12_hear_79 rfl rfl ?_
        refine j_getr (c2 := 79) (n2 := 0) 80 38 nX12_hear_X12 rfl (by decide) (prs_mem (by decide) (by decide)) (by decide) (by decide) wX12_hear_f89 (Or.inl rfl) rfl rfl rfl dX12_hear_80 ?_
        refine j_iload 83 3 dX12_hear_83 rfl ?_
        refine j_iconst (v := 1) 85 dX12_hear_85 (by decide) ?_
        refine j_iload 86 4 dX12_hear_86 rfl ?_
        refine j_ishl 88 dX12_hear_88 ?_
        refine j_ior 89 dX12_hear_89 ?_
        refine j_iald (c := 79) (n := 0) (L := 512) 90 (prs_mem (by decide) (by decide)) (by decide) rfl rfl rfl dX12_hear_90 ?_
        refine j_iadd 91 dX12_hear_91 ?_
        refine j_bndi (fun x6_8 => ?_)
        refine j_istore (lv2 := [(6, .int x6_8), (0, .ref (ad 11 0)), (1, .int x1), (2, .int x2), (4, .int x4), (5, .int x5)]) 92 dX12_hear_92 (by decide) rfl ?_
        refine j_aload_n 94 1 dX12_hear_94 rfl rfl ?_
        refine j_getr (c2 := 79) (n2 := 0) 95 38 nX12_hear_X12 rfl (by decide) (prs_mem (by decide) (by decide)) (by decide) (by decide) wX12_hear_f89 (Or.inl rfl) rfl rfl rfl dX12_hear_95 ?_
        refine j_iload 98 4 dX12_hear_98 rfl ?_
        refine j_iload 100 0 dX12_hear_100 rfl ?_
        refine j_aload_n 102 1 dX12_hear_102 rfl rfl ?_
        refine j_getr (c2 := 79) (n2 := 0) 103 38 nX12_hear_X12 rfl (by decide) (prs_mem (by decide) (by decide)) (by decide) (by decide) wX12_hear_f89 (Or.inl rfl) rfl rfl rfl dX12_hear_103 ?_
        refine j_iload 106 4 dX12_hear_106 rfl ?_
        refine j_iald (c := 79) (n := 0) (L := 512) 108 (prs_mem (by decide) (by decide)) (by decide) rfl rfl rfl dX12_hear_108 ?_
        refine j_icmp_le 109 117 dX12_hear_109 (by decide) (fun _ => ?_) (fun _ => ?_)
        · refine j_aload_n 117 1 dX12_hear_117 rfl rfl ?_
          refine j_getr (c2 := 79) (n2 := 0) 118 38 nX12_hear_X12 rfl (by decide) (prs_mem (by decide) (by decide)) (by decide) (by decide) wX12_hear_f89 (Or.inl rfl) rfl rfl rfl dX12_hear_118 ?_
          refine j_iload 121 4 dX12_hear_121 rfl ?_
          refine j_iald (c := 79) (n := 0) (L := 512) 123 (prs_mem (by decide) (by decide)) (by decide) rfl rfl rfl dX12_hear_123 ?_
          refine j_sub [1, 2, 3, 4, 5] rfl ?_
          exact tX12_hear_j124 X _ F S x1 x2 x4 x5 (gA S 79 0 x4.toNatClampNeg) x4 _ ih
        · refine j_iload 112 0 dX12_hear_112 rfl ?_
          refine j_goto 114 124 dX12_hear_114 (by decide) ?_
          refine j_sub [1, 2, 3, 4, 5] rfl ?_
          exact tX12_hear_j124 X _ F S x1 x2 x4 x5 x6_8 x4 _ ih
set_option maxRecDepth 100000 in
set_option maxHeartbeats 4000000 in
theorem tX12_hear_L35 {ad : Nat → Nat → Nat} (X : Ctx) (F : Nat) (x1 : Int32) (x2 : Int32) (k137 : St → Option (Int32 × St))  (hk137 : ∀ (γ : Nat → Nat) (S : St), JJ X ad γ (RQm X ad 3 69 outei) (fcm outei) 3 69 cX12_hear 8 RX12 wsX12_hear (some .int) (k137 S) S 137 [(0, .ref (ad 11 0)), (1, .int x1), (2, .int x2)] []) : ∀ (n : Nat) (γ : Nat → Nat) (x4 : Int32) (S : St), JJ X ad γ (RQm X ad 3 69 outei) (fcm outei) 3 69 cX12_hear 8 RX12 wsX12_hear (some .int) (fX12_hear_L35 F x1 x2 k137 n x4 S) S 35 [(0, .ref (ad 11 0)), (1, .int x1), (2, .int x2), (4, .int x4)] [] := by
  intro n
  induction n with
  | zero => intro _ _ _; exact j_none
  | succ n ih =>
    intro γ x4 S
    rw [show fX12_hear_L35 F x1 x2 k137 (n + 1) x4 S = fX12_hear_b35 F x1 x2 k137 (fX12_hear_L35 F x1 x2 k137 n) x4 S from rfl]
    unfold fX12_hear_b35
    refine j_iload 35 3 dX12_hear_35 rfl ?_
    refine j_if_lt 37 137 dX12_hear_37 (by decide) (fun _ => ?_) (fun _ => ?_)
    · refine j_sub [0, 1, 2] rfl ?_
      exact hk137 _ S
    · refine j_aload_n 40 0 dX12_hear_40 rfl rfl ?_
      refine j_getr (c2 := 79) (n2 := 0) 41 38 nX12_hear_X12 rfl (by decide) (prs_mem (by decide) (by decide)) (by decide) (by decide) wX12_hear_f89 (Or.inl rfl) rfl rfl rfl dX12_hear_41 ?_
      refine j_iload 44 3 dX12_hear_44 rfl ?_
      refine j_iconst (v := (-1)) 46 dX12_hear_46 (by decide) ?_
      refine j_iast (c := 79) (n := 0) (L := 512) 47 (prs_mem (by decide) (by decide)) (by decide) rfl rfl rfl dX12_hear_47 (j_bs (fun S_5 => ?_))
      refine j_iconst (v := 0) 48 dX12_hear_48 (by decide) ?_
      refine j_istore (lv2 := [(5, .int 0), (0, .ref (ad 11 0)), (1, .int x1), (2, .int x2), (4, .int x4)]) 49 dX12_hear_49 (by decide) rfl ?_
      refine j_sub [1, 2, 3, 4, 0] rfl ?_
      refine tX12_hear_L51 X F x1 x2 x4 _ (fun γ S_10 => ?_) F _ 0 S_5
      refine j_iinc (v := x4 + (-1)) (lv2 := [(4, .int (x4 + (-1))), (0, .ref (ad 11 0)), (1, .int x1), (2, .int x2)]) 131 3 dX12_hear_131 rfl rfl (by decide) rfl ?_
      refine j_goto 134 35 dX12_hear_134 (by decide) ?_
      refine j_sub [1, 2, 3, 0] rfl ?_
      exact ih _ (x4 + (-1)) S_10
set_option maxRecDepth 100000 in
set_option maxHeartbeats 4000000 in
theorem tX12_hear_L182 {ad : Nat → Nat → Nat} (X : Ctx) (F : Nat) (S : St) (x1 : Int32) (x2 : Int32) (x4 : Int32) (x6 : Int32) (k255 : Int32 → Option (Int32 × St))  (hk255 : ∀ (γ : Nat → Nat) (x5 : Int32), JJ X ad γ (RQm X ad 3 69 outei) (fcm outei) 3 69 cX12_hear 8 RX12 wsX12_hear (some .int) (k255 x5) S 255 [(0, .ref (ad 11 0)), (1, .int x1), (2, .int x2), (4, .int x4), (5, .int x5), (6, .int x6)] []) : ∀ (n : Nat) (γ : Nat → Nat) (x5 : Int32) (x7 : Int32), JJ X ad γ (RQm X ad 3 69 outei) (fcm outei) 3 69 cX12_hear 8 RX12 wsX12_hear (some .int) (fX12_hear_L182 F S x1 x2 x4 x6 k255 n x5 x7) S 182 [(0, .ref (ad 11 0)), (1, .int x1), (2, .int x2), (4, .int x4), (5, .int x5), (6, .int x6), (7, .int x7)] [] := by
  intro n
  induction n with
  | zero => intro _ _ _; exact j_none
  | succ n ih =>
    intro γ x5 x7
    rw [show fX12_hear_L182 F S x1 x2 x4 x6 k255 (n + 1) x5 x7 = fX12_hear_b182 F S x1 x2 x4 x6 k255 (fX12_hear_L182 F S x1 x2 x4 x6 k255 n) x5 x7 from rfl]
    unfold fX12_hear_b182
    refine j_iload 182 6 dX12_hear_182 rfl ?_
    refine j_aload_n 184 0 dX12_hear_184 rfl rfl ?_
    refine j_geti 185 23 nX12_hear_X12 rfl (by decide) (prs_mem (by decide) (by decide)) (by decide) (by decide) wX12_hear_f257 (Or.inl rfl) rfl dX12_hear_185 ?_
    refine j_icmp_ge 188 255 dX12_hear_188 (by decide) (fun _ => ?_) (fun _ => ?_)
    · refine j_sub [0, 1, 2, 3, 4, 5] rfl ?_
      exact hk255 _ x5
    · refine j_iload 191 4 dX12_hear_191 rfl ?_
      refine j_bipush (v := (-4)) 193 dX12_hear_193 (by decide) ?_
      refine j_icmp_ne 195 255 dX12_hear_195 (by decide) (fun _ => ?_) (fun _ => ?_)
      · refine j_sub [0, 1, 2, 3, 4, 5] rfl ?_
        exact hk255 _ x5
      · refine j_iload 198 3 dX12_hear_198 rfl ?_
        refine j_iload 200 6 dX12_hear_200 rfl ?_
        refine j_callS_pi 202  [.int x4, .int x7] [] gX12_hear_X12_has rfl eX12_has ⟨Nat.le_of_ble_eq_true rfl, Nat.le_of_ble_eq_true rfl⟩ rfl rfl (Nat.le_of_ble_eq_true rfl) dX12_hear_202 (kX12_has S x4 x7) (fun b_12 γ => ?_)
        refine j_if_ne 205 245 dX12_hear_205 (by decide) (fun _ => ?_) (fun _ => ?_)
        · refine j_bipush (v := (-4)) 245 dX12_hear_245 (by decide) ?_
          refine j_istore (lv2 := [(5, .int (-4)), (0, .ref (ad 11 0)), (1, .int x1), (2, .int x2), (4, .int x4), (6, .int x6), (7, .int x7)]) 247 dX12_hear_247 (by decide) rfl ?_
          refine j_iinc (v := x7 + 1) (lv2 := [(7, .int (x7 + 1)), (5, .int (-4)), (0, .ref (ad 11 0)), (1, .int x1), (2, .int x2), (4, .int x4), (6, .int x6)]) 249 6 dX12_hear_249 rfl rfl (by decide) rfl ?_
          refine j_goto 252 182 dX12_hear_252 (by decide) ?_
          refine j_sub [2, 3, 4, 5, 1, 6, 0] rfl ?_
          exact ih _ (-4) (x7 + 1)
        · refine j_aload_n 208 0 dX12_hear_208 rfl rfl ?_
          refine j_iload 209 3 dX12_hear_209 rfl ?_
          refine j_iload 211 6 dX12_hear_211 rfl ?_
          refine j_iload_n 213 1 dX12_hear_213 rfl rfl ?_
          refine j_callV_pi 214 rfl (by decide) (prs_mem (by decide) (by decide))  [.int x4, .int x7, .int x1] [] gX12_hear_X12_heard rfl eX12_heard ⟨Nat.le_of_ble_eq_true rfl, Nat.le_of_ble_eq_true rfl⟩ rfl rfl (Nat.le_of_ble_eq_true rfl) dX12_hear_214 (kX12_heard F S x4 x7 x1) (fun b_13 γ => ?_)
          refine j_aload_n 217 0 dX12_hear_217 rfl rfl ?_
          refine j_getr (c2 := 79) (n2 := 0) 218 38 nX12_hear_X12 rfl (by decide) (prs_mem (by decide) (by decide)) (by decide) (by decide) wX12_hear_f89 (Or.inl rfl) rfl rfl rfl dX12_hear_218 ?_
          refine j_iload 221 3 dX12_hear_221 rfl ?_
          refine j_iconst (v := 1) 223 dX12_hear_223 (by decide) ?_
          refine j_iload 224 6 dX12_hear_224 rfl ?_
          refine j_ishl 226 dX12_hear_226 ?_
          refine j_ior 227 dX12_hear_227 ?_
          refine j_iald (c := 79) (n := 0) (L := 512) 228 (prs_mem (by decide) (by decide)) (by decide) rfl rfl rfl dX12_hear_228 ?_
          refine j_iadd 229 dX12_hear_229 ?_
          refine j_aload_n 230 0 dX12_hear_230 rfl rfl ?_
          refine j_getr (c2 := 79) (n2 := 0) 231 38 nX12_hear_X12 rfl (by decide) (prs_mem (by decide) (by decide)) (by decide) (by decide) wX12_hear_f89 (Or.inl rfl) rfl rfl rfl dX12_hear_231 ?_
          refine j_iload 234 3 dX12_hear_234 rfl ?_
          refine j_iald (c := 79) (n := 0) (L := 512) 236 (prs_mem (by decide) (by decide)) (by decide) rfl rfl rfl dX12_hear_236 ?_
          refine j_icmp_ne 237 245 dX12_hear_237 (by decide) (fun _ => ?_) (fun _ => ?_)
          · refine j_bipush (v := (-4)) 245 dX12_hear_245 (by decide) ?_
            refine j_istore (lv2 := [(5, .int (-4)), (0, .ref (ad 11 0)), (1, .int x1), (2, .int x2), (4, .int x4), (6, .int x6), (7, .int x7)]) 247 dX12_hear_247 (by decide) rfl ?_
            refine j_iinc (v := x7 + 1) (lv2 := [(7, .int (x7 + 1)), (5, .int (-4)), (0, .ref (ad 11 0)), (1, .int x1), (2, .int x2), (4, .int x4), (6, .int x6)]) 249 6 dX12_hear_249 rfl rfl (by decide) rfl ?_
            refine j_goto 252 182 dX12_hear_252 (by decide) ?_
            refine j_sub [2, 3, 4, 5, 1, 6, 0] rfl ?_
            exact ih _ (-4) (x7 + 1)
          · refine j_iload 240 6 dX12_hear_240 rfl ?_
            refine j_goto 242 247 dX12_hear_242 (by decide) ?_
            refine j_istore (lv2 := [(5, .int x7), (0, .ref (ad 11 0)), (1, .int x1), (2, .int x2), (4, .int x4), (6, .int x6), (7, .int x7)]) 247 dX12_hear_247 (by decide) rfl ?_
            refine j_iinc (v := x7 + 1) (lv2 := [(7, .int (x7 + 1)), (5, .int x7), (0, .ref (ad 11 0)), (1, .int x1), (2, .int x2), (4, .int x4), (6, .int x6)]) 249 6 dX12_hear_249 rfl rfl (by decide) rfl ?_
            refine j_goto 252 182 dX12_hear_252 (by decide) ?_
            refine j_sub [2, 3, 4, 5, 1, 6, 0] rfl ?_
            exact ih _ x7 (x7 + 1)
set_option maxRecDepth 100000 in
set_option maxHeartbeats 4000000 in
theorem tX12_hear_j255 {ad : Nat → Nat → Nat} (X : Ctx) (γ : Nat → Nat) (F : Nat) (S : St) (x1 : Int32) (x2 : Int32) (x4 : Int32) (x5 : Int32) (x6 : Int32) (rec : Int32 → Int32 → Int32 → Option (Int32 × St))  (ih : ∀ (γ : Nat → Nat) (x4 : Int32) (x5 : Int32) (x6 : Int32), JJ X ad γ (RQm X ad 3 69 outei) (fcm outei) 3 69 cX12_hear 8 RX12 wsX12_hear (some .int) (rec x4 x5 x6) S 169 [(0, .ref (ad 11 0)), (1, .int x1), (2, .int x2), (4, .int x4), (5, .int x5), (6, .int x6)] []) : JJ X ad γ (RQm X ad 3 69 outei) (fcm outei) 3 69 cX12_hear 8 RX12 wsX12_hear (some .int) (fX12_hear_j255 F S x1 x2 x4 x5 x6 rec) S 255 [(0, .ref (ad 11 0)), (1, .int x1), (2, .int x2), (4, .int x4), (5, .int x5), (6, .int x6)] [] := by
  unfold fX12_hear_j255
  refine j_iload 255 3 dX12_hear_255 rfl ?_
  refine j_iconst (v := 1) 257 dX12_hear_257 (by decide) ?_
  refine j_iload 258 4 dX12_hear_258 rfl ?_
  refine j_ishl 260 dX12_hear_260 ?_
  refine j_ior 261 dX12_hear_261 ?_
  refine j_bndi (fun x4_15 => ?_)
  refine j_istore (lv2 := [(4, .int x4_15), (0, .ref (ad 11 0)), (1, .int x1), (2, .int x2), (5, .int x5), (6, .int x6)]) 262 dX12_hear_262 (by decide) rfl ?_
  refine j_iinc (v := x6 + 1) (lv2 := [(6, .int (x6 + 1)), (4, .int x4_15), (0, .ref (ad 11 0)), (1, .int x1), (2, .int x2), (5, .int x5)]) 264 5 dX12_hear_264 rfl rfl (by decide) rfl ?_
  refine j_goto 267 169 dX12_hear_267 (by decide) ?_
  refine j_sub [2, 3, 4, 1, 5, 0] rfl ?_
  exact ih _ x4_15 x5 (x6 + 1)
set_option maxRecDepth 100000 in
set_option maxHeartbeats 4000000 in
theorem tX12_hear_L169 {ad : Nat → Nat → Nat} (X : Ctx) (F : Nat) (S : St) (x1 : Int32) (x2 : Int32)   : ∀ (n : Nat) (γ : Nat → Nat) (x4 : Int32) (x5 : Int32) (x6 : Int32), JJ X ad γ (RQm X ad 3 69 outei) (fcm outei) 3 69 cX12_hear 8 RX12 wsX12_hear (some .int) (fX12_hear_L169 F S x1 x2 n x4 x5 x6) S 169 [(0, .ref (ad 11 0)), (1, .int x1), (2, .int x2), (4, .int x4), (5, .int x5), (6, .int x6)] [] := by
  intro n
  induction n with
  | zero => intro _ _ _ _; exact j_none
  | succ n ih =>
    intro γ x4 x5 x6
    rw [show fX12_hear_L169 F S x1 x2 (n + 1) x4 x5 x6 = fX12_hear_b169 F S x1 x2 (fX12_hear_L169 F S x1 x2 n) x4 x5 x6 from rfl]
    unfold fX12_hear_b169
    refine j_iload 169 5 dX12_hear_169 rfl ?_
    refine j_iload_n 171 2 dX12_hear_171 rfl rfl ?_
    refine j_icmp_gt 172 270 dX12_hear_172 (by decide) (fun _ => ?_) (fun _ => ?_)
    · refine j_iload 270 4 dX12_hear_270 rfl ?_
      exact j_iret 272 rfl dX12_hear_272
    · refine j_bipush (v := (-4)) 175 dX12_hear_175 (by decide) ?_
      refine j_istore (lv2 := [(5, .int (-4)), (0, .ref (ad 11 0)), (1, .int x1), (2, .int x2), (4, .int x4), (6, .int x6)]) 177 dX12_hear_177 (by decide) rfl ?_
      refine j_iconst (v := 0) 179 dX12_hear_179 (by decide) ?_
      refine j_istore (lv2 := [(7, .int 0), (5, .int (-4)), (0, .ref (ad 11 0)), (1, .int x1), (2, .int x2), (4, .int x4), (6, .int x6)]) 180 dX12_hear_180 (by decide) rfl ?_
      refine j_sub [2, 3, 4, 5, 1, 6, 0] rfl ?_
      refine tX12_hear_L182 X F S x1 x2 x4 x6 _ (fun γ x5_14 => ?_) F _ (-4) 0
      exact tX12_hear_j255 X _ F S x1 x2 x4 x5_14 x6 _ ih
set_option maxRecDepth 100000 in
set_option maxHeartbeats 4000000 in
theorem tX12_hear {ad : Nat → Nat → Nat} (X : Ctx) (γ : Nat → Nat) (F : Nat) (S : St) (p1 : Int32) (p2 : Int32) : JJ X ad γ (RQm X ad 3 69 outei) (fcm outei) 3 69 cX12_hear 8 RX12 wsX12_hear (some .int) (fX12_hear F S p1 p2) S 0 [(0, .ref (ad 11 0)), (1, .int p1), (2, .int p2)] [] := by
  unfold fX12_hear
  refine j_iload_n 0 1 dX12_hear_0 rfl rfl ?_
  refine j_callS_pi 1  [.int p1] [] gX12_hear_X12_isYear rfl eX12_isYear ⟨Nat.le_of_ble_eq_true rfl, Nat.le_of_ble_eq_true rfl⟩ rfl rfl (Nat.le_of_ble_eq_true rfl) dX12_hear_1 (kX12_isYear S p1) (fun b_1 γ => ?_)
  refine j_if_eq 4 12 dX12_hear_4 (by decide) (fun _ => ?_) (fun _ => ?_)
  · refine j_iconst (v := (-1)) 12 dX12_hear_12 (by decide) ?_
    exact j_iret 13 rfl dX12_hear_13
  · refine j_iload_n 7 2 dX12_hear_7 rfl rfl ?_
    refine j_iconst (v := (-1)) 8 dX12_hear_8 (by decide) ?_
    refine j_icmp_ge 9 14 dX12_hear_9 (by decide) (fun _ => ?_) (fun _ => ?_)
    · refine j_iconst (v := 1) 14 dX12_hear_14 (by decide) ?_
      refine j_aload_n 15 0 dX12_hear_15 rfl rfl ?_
      refine j_geti 16 23 nX12_hear_X12 rfl (by decide) (prs_mem (by decide) (by decide)) (by decide) (by decide) wX12_hear_f257 (Or.inl rfl) rfl dX12_hear_16 ?_
      refine j_ishl 19 dX12_hear_19 ?_
      refine j_iconst (v := 1) 20 dX12_hear_20 (by decide) ?_
      refine j_isub 21 dX12_hear_21 ?_
      refine j_bndi (fun x3_2 => ?_)
      refine j_istore_n (lv2 := [(3, .int x3_2), (0, .ref (ad 11 0)), (1, .int p1), (2, .int p2)]) 22 dX12_hear_22 rfl (by decide) rfl ?_
      refine j_aload_n 23 1 dX12_hear_23 rfl rfl ?_
      refine j_getr (c2 := 79) (n2 := 0) 24 38 nX12_hear_X12 rfl (by decide) (prs_mem (by decide) (by decide)) (by decide) (by decide) wX12_hear_f89 (Or.inl rfl) rfl rfl rfl dX12_hear_24 ?_
      refine j_iload_n 27 0 dX12_hear_27 rfl rfl ?_
      refine j_iconst (v := 0) 28 dX12_hear_28 (by decide) ?_
      refine j_iast (c := 79) (n := 0) (L := 512) 29 (prs_mem (by decide) (by decide)) (by decide) rfl rfl rfl dX12_hear_29 (j_bs (fun S_3 => ?_))
      refine j_iload_n 30 0 dX12_hear_30 rfl rfl ?_
      refine j_iconst (v := 1) 31 dX12_hear_31 (by decide) ?_
      refine j_isub 32 dX12_hear_32 ?_
      refine j_bndi (fun x4_4 => ?_)
      refine j_istore (lv2 := [(4, .int x4_4), (3, .int x3_2), (0, .ref (ad 11 0)), (1, .int p1), (2, .int p2)]) 33 dX12_hear_33 (by decide) rfl ?_
      refine j_sub [2, 3, 4, 0] rfl ?_
      refine tX12_hear_L35 X F p1 p2 _ (fun γ S_11 => ?_) F _ x4_4 S_3
      refine j_iload_n 137 2 dX12_hear_137 rfl rfl ?_
      refine j_if_ge 138 148 dX12_hear_138 (by decide) (fun _ => ?_) (fun _ => ?_)
      · refine j_iload_n 148 2 dX12_hear_148 rfl rfl ?_
        refine j_aload_n 149 0 dX12_hear_149 rfl rfl ?_
        refine j_geti 150 23 nX12_hear_X12 rfl (by decide) (prs_mem (by decide) (by decide)) (by decide) (by decide) wX12_hear_f257 (Or.inl rfl) rfl dX12_hear_150 ?_
        refine j_icmp_lt 153 159 dX12_hear_153 (by decide) (fun _ => ?_) (fun _ => ?_)
        · refine j_iconst (v := 0) 159 dX12_hear_159 (by decide) ?_
          refine j_istore (lv2 := [(4, .int 0), (0, .ref (ad 11 0)), (1, .int p1), (2, .int p2)]) 160 dX12_hear_160 (by decide) rfl ?_
          refine j_bipush (v := (-4)) 162 dX12_hear_162 (by decide) ?_
          refine j_istore (lv2 := [(5, .int (-4)), (4, .int 0), (0, .ref (ad 11 0)), (1, .int p1), (2, .int p2)]) 164 dX12_hear_164 (by decide) rfl ?_
          refine j_iconst (v := 0) 166 dX12_hear_166 (by decide) ?_
          refine j_istore (lv2 := [(6, .int 0), (5, .int (-4)), (4, .int 0), (0, .ref (ad 11 0)), (1, .int p1), (2, .int p2)]) 167 dX12_hear_167 (by decide) rfl ?_
          refine j_sub [3, 4, 5, 2, 1, 0] rfl ?_
          exact tX12_hear_L169 X F S_11 p1 p2 F _ 0 (-4) 0
        · refine j_bipush (v := (-4)) 156 dX12_hear_156 (by decide) ?_
          exact j_iret 158 rfl dX12_hear_158
      · refine j_aload_n 141 0 dX12_hear_141 rfl rfl ?_
        refine j_getr (c2 := 79) (n2 := 0) 142 38 nX12_hear_X12 rfl (by decide) (prs_mem (by decide) (by decide)) (by decide) (by decide) wX12_hear_f89 (Or.inl rfl) rfl rfl rfl dX12_hear_142 ?_
        refine j_iconst (v := 0) 145 dX12_hear_145 (by decide) ?_
        refine j_iald (c := 79) (n := 0) (L := 512) 146 (prs_mem (by decide) (by decide)) (by decide) rfl rfl rfl dX12_hear_146 ?_
        exact j_iret 147 rfl dX12_hear_147
    · refine j_iconst (v := (-1)) 12 dX12_hear_12 (by decide) ?_
      exact j_iret 13 rfl dX12_hear_13
set_option maxRecDepth 100000 in
set_option maxHeartbeats 4000000 in
theorem kX12_hear {ad : Nat → Nat → Nat} (F : Nat) (S : St) (p1 : Int32) (p2 : Int32) : ∀ b, fX12_hear F S p1 p2 = some b → ∀ l dC dI cy, CT l dC dI cy ad yX12_hear wsX12_hear 3 69 [.ref (ad 11 0), .int p1, .int p2] S (some (.int b.1)) b.2 :=
  fun b hb l dC dI cy => ct_of (l := l) (dC := dC) (dI := dI) (cy := cy) outei (by decide) rfl (Nat.le_of_ble_eq_true rfl) rfl (fun X γ => tX12_hear X γ F S p1 p2) b hb
