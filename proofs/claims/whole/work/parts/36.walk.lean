-- X12_die
theorem nX12_die_X12 : ∀ w ∈ u_ws RX12 TX12 40, w ∈ wsX12_die := by decide +kernel
theorem wX12_die_f34 : Cond.fieldLink RX12 34 "TwoTonguesModel" "dies" "[I" ∈ wsX12_die := by decide +kernel
theorem wX12_die_c183 : Cond.constant RX12 183 (1000000) ∈ wsX12_die := by decide +kernel
theorem wX12_die_f28 : Cond.fieldLink RX12 28 "TwoTonguesModel" "born" "[I" ∈ wsX12_die := by decide +kernel
set_option maxRecDepth 100000 in
set_option maxHeartbeats 4000000 in
theorem tX12_die {ad : Nat → Nat → Nat} (X : Ctx) (γ : Nat → Nat) (S : St) (p1 : Int32) (p2 : Int32) : JJ X ad γ (RQm X ad 2 46 outei) (fcm outei) 2 46 cX12_die 3 RX12 wsX12_die (some .int) (fX12_die S p1 p2) S 0 [(0, .ref (ad 11 0)), (1, .int p1), (2, .int p2)] [] := by
  unfold fX12_die
  refine j_aload_n 0 0 dX12_die_0 rfl rfl ?_
  refine j_iload_n 1 1 dX12_die_1 rfl rfl ?_
  refine j_callV_pi 2 rfl (by decide) (prs_mem (by decide) (by decide))  [.int p1] [] gX12_die_X12_isPerson rfl eX12_isPerson ⟨Nat.le_of_ble_eq_true rfl, Nat.le_of_ble_eq_true rfl⟩ rfl rfl (Nat.le_of_ble_eq_true rfl) dX12_die_2 (kX12_isPerson S p1) (fun b_1 γ => ?_)
  refine j_if_eq 5 15 dX12_die_5 (by decide) (fun _ => ?_) (fun _ => ?_)
  · refine j_iconst (v := (-1)) 15 dX12_die_15 (by decide) ?_
    exact j_iret 16 rfl dX12_die_16
  · refine j_iload_n 8 2 dX12_die_8 rfl rfl ?_
    refine j_callS_pi 9  [.int p2] [] gX12_die_X12_isYear rfl eX12_isYear ⟨Nat.le_of_ble_eq_true rfl, Nat.le_of_ble_eq_true rfl⟩ rfl rfl (Nat.le_of_ble_eq_true rfl) dX12_die_9 (kX12_isYear S p2) (fun b_2 γ => ?_)
    refine j_if_ne 12 17 dX12_die_12 (by decide) (fun _ => ?_) (fun _ => ?_)
    · refine j_aload_n 17 0 dX12_die_17 rfl rfl ?_
      refine j_getr (c2 := 61) (n2 := 0) 18 9 nX12_die_X12 rfl (by decide) (prs_mem (by decide) (by decide)) (by decide) (by decide) wX12_die_f34 (Or.inl rfl) rfl rfl rfl dX12_die_18 ?_
      refine j_iload_n 21 1 dX12_die_21 rfl rfl ?_
      refine j_iald (c := 61) (n := 0) (L := 30) 22 (prs_mem (by decide) (by decide)) (by decide) rfl rfl rfl dX12_die_22 ?_
      refine j_ldc (v := 1000000) 23 dX12_die_23 wX12_die_c183 ?_
      refine j_icmp_lt 25 38 dX12_die_25 (by decide) (fun _ => ?_) (fun _ => ?_)
      · refine j_bipush (v := (-2)) 38 dX12_die_38 (by decide) ?_
        exact j_iret 40 rfl dX12_die_40
      · refine j_iload_n 28 2 dX12_die_28 rfl rfl ?_
        refine j_aload_n 29 0 dX12_die_29 rfl rfl ?_
        refine j_getr (c2 := 59) (n2 := 0) 30 7 nX12_die_X12 rfl (by decide) (prs_mem (by decide) (by decide)) (by decide) (by decide) wX12_die_f28 (Or.inl rfl) rfl rfl rfl dX12_die_30 ?_
        refine j_iload_n 33 1 dX12_die_33 rfl rfl ?_
        refine j_iald (c := 59) (n := 0) (L := 30) 34 (prs_mem (by decide) (by decide)) (by decide) rfl rfl rfl dX12_die_34 ?_
        refine j_icmp_ge 35 41 dX12_die_35 (by decide) (fun _ => ?_) (fun _ => ?_)
        · refine j_aload_n 41 0 dX12_die_41 rfl rfl ?_
          refine j_getr (c2 := 61) (n2 := 0) 42 9 nX12_die_X12 rfl (by decide) (prs_mem (by decide) (by decide)) (by decide) (by decide) wX12_die_f34 (Or.inl rfl) rfl rfl rfl dX12_die_42 ?_
          refine j_iload_n 45 1 dX12_die_45 rfl rfl ?_
          refine j_iload_n 46 2 dX12_die_46 rfl rfl ?_
          refine j_iast (c := 61) (n := 0) (L := 30) 47 (prs_mem (by decide) (by decide)) (by decide) rfl rfl rfl dX12_die_47 (j_bs (fun S_3 => ?_))
          refine j_iconst (v := 0) 48 dX12_die_48 (by decide) ?_
          exact j_iret 49 rfl dX12_die_49
        · refine j_bipush (v := (-2)) 38 dX12_die_38 (by decide) ?_
          exact j_iret 40 rfl dX12_die_40
    · refine j_iconst (v := (-1)) 15 dX12_die_15 (by decide) ?_
      exact j_iret 16 rfl dX12_die_16
set_option maxRecDepth 100000 in
set_option maxHeartbeats 4000000 in
theorem kX12_die {ad : Nat → Nat → Nat} (S : St) (p1 : Int32) (p2 : Int32) : ∀ b, fX12_die S p1 p2 = some b → ∀ l dC dI cy, CT l dC dI cy ad yX12_die wsX12_die 2 46 [.ref (ad 11 0), .int p1, .int p2] S (some (.int b.1)) b.2 :=
  fun b hb l dC dI cy => ct_of (l := l) (dC := dC) (dI := dI) (cy := cy) outei (by decide) rfl (Nat.le_of_ble_eq_true rfl) rfl (fun X γ => tX12_die X γ S p1 p2) b hb
-- X12_founder
theorem nX12_founder_X12 : ∀ w ∈ u_ws RX12 TX12 40, w ∈ wsX12_founder := by decide +kernel
theorem wX12_founder_f37 : Cond.fieldLink RX12 37 "TwoTonguesModel" "founds" "[I" ∈ wsX12_founder := by decide +kernel
theorem wX12_founder_f175 : Cond.fieldLink RX12 175 "TwoTonguesModel" "personMany" "I" ∈ wsX12_founder := by decide +kernel
set_option maxRecDepth 100000 in
set_option maxHeartbeats 4000000 in
theorem tX12_founder_L50 {ad : Nat → Nat → Nat} (X : Ctx) (F : Nat) (S : St) (x2 : Int32)   : ∀ (n : Nat) (γ : Nat → Nat) (x3 : Int32) (x4 : Int32), JJ X ad γ (RQm X ad 2 46 outei) (fcm outei) 2 46 cX12_founder 5 RX12 wsX12_founder (some .int) (fX12_founder_L50 F S x2 n x3 x4) S 50 [(0, .ref (ad 11 0)), (2, .int x2), (3, .int x3), (4, .int x4)] [] := by
  intro n
  induction n with
  | zero => intro _ _ _; exact j_none
  | succ n ih =>
    intro γ x3 x4
    rw [show fX12_founder_L50 F S x2 (n + 1) x3 x4 = fX12_founder_b50 F S x2 (fX12_founder_L50 F S x2 n) x3 x4 from rfl]
    unfold fX12_founder_b50
    refine j_iload 50 3 dX12_founder_50 rfl ?_
    refine j_aload_n 52 0 dX12_founder_52 rfl rfl ?_
    refine j_geti 53 6 nX12_founder_X12 rfl (by decide) (prs_mem (by decide) (by decide)) (by decide) (by decide) wX12_founder_f175 (Or.inl rfl) rfl dX12_founder_53 ?_
    refine j_icmp_ge 56 87 dX12_founder_56 (by decide) (fun _ => ?_) (fun _ => ?_)
    · refine j_iload_n 87 2 dX12_founder_87 rfl rfl ?_
      exact j_iret 88 rfl dX12_founder_88
    · refine j_iload_n 59 2 dX12_founder_59 rfl rfl ?_
      refine j_aload_n 60 0 dX12_founder_60 rfl rfl ?_
      refine j_getr (c2 := 62) (n2 := 0) 61 10 nX12_founder_X12 rfl (by decide) (prs_mem (by decide) (by decide)) (by decide) (by decide) wX12_founder_f37 (Or.inl rfl) rfl rfl rfl dX12_founder_61 ?_
      refine j_iload 64 3 dX12_founder_64 rfl ?_
      refine j_iald (c := 62) (n := 0) (L := 30) 66 (prs_mem (by decide) (by decide)) (by decide) rfl rfl rfl dX12_founder_66 ?_
      refine j_iload_n 67 1 dX12_founder_67 rfl rfl ?_
      refine j_callS_pi 68  [.int (gA S 62 0 x4.toNatClampNeg), .int x2] [.int x3] gX12_founder_X12_has rfl eX12_has ⟨Nat.le_of_ble_eq_true rfl, Nat.le_of_ble_eq_true rfl⟩ rfl rfl (Nat.le_of_ble_eq_true rfl) dX12_founder_68 (kX12_has S (gA S 62 0 x4.toNatClampNeg) x2) (fun b_5 γ => ?_)
      refine j_if_eq 71 78 dX12_founder_71 (by decide) (fun _ => ?_) (fun _ => ?_)
      · refine j_iconst (v := 0) 78 dX12_founder_78 (by decide) ?_
        refine j_iadd 79 dX12_founder_79 ?_
        refine j_bndi (fun x3_6 => ?_)
        refine j_istore_n (lv2 := [(3, .int x3_6), (0, .ref (ad 11 0)), (2, .int x2), (4, .int x4)]) 80 dX12_founder_80 rfl (by decide) rfl ?_
        refine j_iinc (v := x4 + 1) (lv2 := [(4, .int (x4 + 1)), (3, .int x3_6), (0, .ref (ad 11 0)), (2, .int x2)]) 81 3 dX12_founder_81 rfl rfl (by decide) rfl ?_
        refine j_goto 84 50 dX12_founder_84 (by decide) ?_
        refine j_sub [2, 3, 1, 0] rfl ?_
        exact ih _ x3_6 (x4 + 1)
      · refine j_iconst (v := 1) 74 dX12_founder_74 (by decide) ?_
        refine j_goto 75 79 dX12_founder_75 (by decide) ?_
        refine j_iadd 79 dX12_founder_79 ?_
        refine j_bndi (fun x3_7 => ?_)
        refine j_istore_n (lv2 := [(3, .int x3_7), (0, .ref (ad 11 0)), (2, .int x2), (4, .int x4)]) 80 dX12_founder_80 rfl (by decide) rfl ?_
        refine j_iinc (v := x4 + 1) (lv2 := [(4, .int (x4 + 1)), (3, .int x3_7), (0, .ref (ad 11 0)), (2, .int x2)]) 81 3 dX12_founder_81 rfl rfl (by decide) rfl ?_
        refine j_goto 84 50 dX12_founder_84 (by decide) ?_
        refine j_sub [2, 3, 1, 0] rfl ?_
        exact ih _ x3_7 (x4 + 1)
set_option maxRecDepth 100000 in
set_option maxHeartbeats 4000000 in
theorem tX12_founder {ad : Nat → Nat → Nat} (X : Ctx) (γ : Nat → Nat) (F : Nat) (S : St) (p1 : Int32) (p2 : Int32) : JJ X ad γ (RQm X ad 2 46 outei) (fcm outei) 2 46 cX12_founder 5 RX12 wsX12_founder (some .int) (fX12_founder F S p1 p2) S 0 [(0, .ref (ad 11 0)), (1, .int p1), (2, .int p2)] [] := by
  unfold fX12_founder
  refine j_aload_n 0 0 dX12_founder_0 rfl rfl ?_
  refine j_iload_n 1 1 dX12_founder_1 rfl rfl ?_
  refine j_callV_pi 2 rfl (by decide) (prs_mem (by decide) (by decide))  [.int p1] [] gX12_founder_X12_isPerson rfl eX12_isPerson ⟨Nat.le_of_ble_eq_true rfl, Nat.le_of_ble_eq_true rfl⟩ rfl rfl (Nat.le_of_ble_eq_true rfl) dX12_founder_2 (kX12_isPerson S p1) (fun b_1 γ => ?_)
  refine j_if_eq 5 15 dX12_founder_5 (by decide) (fun _ => ?_) (fun _ => ?_)
  · refine j_iconst (v := (-1)) 15 dX12_founder_15 (by decide) ?_
    exact j_iret 16 rfl dX12_founder_16
  · refine j_iload_n 8 2 dX12_founder_8 rfl rfl ?_
    refine j_callS_pi 9  [.int p2] [] gX12_founder_X12_isKin rfl eX12_isKin ⟨Nat.le_of_ble_eq_true rfl, Nat.le_of_ble_eq_true rfl⟩ rfl rfl (Nat.le_of_ble_eq_true rfl) dX12_founder_9 (kX12_isKin S p2) (fun b_2 γ => ?_)
    refine j_if_ne 12 17 dX12_founder_12 (by decide) (fun _ => ?_) (fun _ => ?_)
    · refine j_aload_n 17 0 dX12_founder_17 rfl rfl ?_
      refine j_getr (c2 := 62) (n2 := 0) 18 10 nX12_founder_X12 rfl (by decide) (prs_mem (by decide) (by decide)) (by decide) (by decide) wX12_founder_f37 (Or.inl rfl) rfl rfl rfl dX12_founder_18 ?_
      refine j_iload_n 21 1 dX12_founder_21 rfl rfl ?_
      refine j_iald (c := 62) (n := 0) (L := 30) 22 (prs_mem (by decide) (by decide)) (by decide) rfl rfl rfl dX12_founder_22 ?_
      refine j_iload_n 23 2 dX12_founder_23 rfl rfl ?_
      refine j_callS_pi 24  [.int (gA S 62 0 p1.toNatClampNeg), .int p2] [] gX12_founder_X12_has rfl eX12_has ⟨Nat.le_of_ble_eq_true rfl, Nat.le_of_ble_eq_true rfl⟩ rfl rfl (Nat.le_of_ble_eq_true rfl) dX12_founder_24 (kX12_has S (gA S 62 0 p1.toNatClampNeg) p2) (fun b_3 γ => ?_)
      refine j_if_eq 27 33 dX12_founder_27 (by decide) (fun _ => ?_) (fun _ => ?_)
      · refine j_aload_n 33 0 dX12_founder_33 rfl rfl ?_
        refine j_getr (c2 := 62) (n2 := 0) 34 10 nX12_founder_X12 rfl (by decide) (prs_mem (by decide) (by decide)) (by decide) (by decide) wX12_founder_f37 (Or.inl rfl) rfl rfl rfl dX12_founder_34 ?_
        refine j_iload_n 37 1 dX12_founder_37 rfl rfl ?_
        refine j_dup2 38 dX12_founder_38 rfl rfl ?_
        refine j_iald (c := 62) (n := 0) (L := 30) 39 (prs_mem (by decide) (by decide)) (by decide) rfl rfl rfl dX12_founder_39 ?_
        refine j_iconst (v := 1) 40 dX12_founder_40 (by decide) ?_
        refine j_iload_n 41 2 dX12_founder_41 rfl rfl ?_
        refine j_ishl 42 dX12_founder_42 ?_
        refine j_ior 43 dX12_founder_43 ?_
        refine j_iast (c := 62) (n := 0) (L := 30) 44 (prs_mem (by decide) (by decide)) (by decide) rfl rfl rfl dX12_founder_44 (j_bs (fun S_4 => ?_))
        refine j_iconst (v := 0) 45 dX12_founder_45 (by decide) ?_
        refine j_istore_n (lv2 := [(3, .int 0), (0, .ref (ad 11 0)), (1, .int p1), (2, .int p2)]) 46 dX12_founder_46 rfl (by decide) rfl ?_
        refine j_iconst (v := 0) 47 dX12_founder_47 (by decide) ?_
        refine j_istore (lv2 := [(4, .int 0), (3, .int 0), (0, .ref (ad 11 0)), (1, .int p1), (2, .int p2)]) 48 dX12_founder_48 (by decide) rfl ?_
        refine j_sub [2, 4, 1, 0] rfl ?_
        exact tX12_founder_L50 X F S_4 p2 F _ 0 0
      · refine j_bipush (v := (-2)) 30 dX12_founder_30 (by decide) ?_
        exact j_iret 32 rfl dX12_founder_32
    · refine j_iconst (v := (-1)) 15 dX12_founder_15 (by decide) ?_
      exact j_iret 16 rfl dX12_founder_16
set_option maxRecDepth 100000 in
set_option maxHeartbeats 4000000 in
theorem kX12_founder {ad : Nat → Nat → Nat} (F : Nat) (S : St) (p1 : Int32) (p2 : Int32) : ∀ b, fX12_founder F S p1 p2 = some b → ∀ l dC dI cy, CT l dC dI cy ad yX12_founder wsX12_founder 2 46 [.ref (ad 11 0), .int p1, .int p2] S (some (.int b.1)) b.2 :=
  fun b hb l dC dI cy => ct_of (l := l) (dC := dC) (dI := dI) (cy := cy) outei (by decide) rfl (Nat.le_of_ble_eq_true rfl) rfl (fun X γ => tX12_founder X γ F S p1 p2) b hb
-- X12_say
theorem nX12_say_X12 : ∀ w ∈ u_ws RX12 TX12 40, w ∈ wsX12_say := by decide +kernel
theorem wX12_say_f187 : Cond.fieldLink RX12 187 "TwoTonguesModel" "sayingMany" "I" ∈ wsX12_say := by decide +kernel
theorem wX12_say_f40 : Cond.fieldLink RX12 40 "TwoTonguesModel" "sayings" "[I" ∈ wsX12_say := by decide +kernel
set_option maxRecDepth 100000 in
set_option maxHeartbeats 4000000 in
theorem tX12_say_j96 {ad : Nat → Nat → Nat} (X : Ctx) (γ : Nat → Nat) (S : St) (s0 : Int32) (s1 : Int32)   : JJ X ad γ (RQm X ad 2 46 outei) (fcm outei) 2 46 cX12_say 6 RX12 wsX12_say (some .int) (fX12_say_j96 S s0 s1) S 96 [(0, .ref (ad 11 0))] [.int s0, .int s1, .ref (ad 63 0)] := by
  unfold fX12_say_j96
  refine j_iast (c := 63) (n := 0) (L := 80) 96 (prs_mem (by decide) (by decide)) (by decide) rfl rfl rfl dX12_say_96 (j_bs (fun S_8 => ?_))
  refine j_aload_n 97 0 dX12_say_97 rfl rfl ?_
  refine j_dup 98 dX12_say_98 rfl ?_
  refine j_geti 99 11 nX12_say_X12 rfl (by decide) (prs_mem (by decide) (by decide)) (by decide) (by decide) wX12_say_f187 (Or.inl rfl) rfl dX12_say_99 ?_
  refine j_iconst (v := 1) 102 dX12_say_102 (by decide) ?_
  refine j_iadd 103 dX12_say_103 ?_
  refine j_puti 104 11 nX12_say_X12 rfl (by decide) (prs_mem (by decide) (by decide)) (by decide) (by decide) wX12_say_f187 (Or.inl rfl) tyX12 tyX12_ok nmX12 rfl (by decide) rfl dX12_say_104 (j_bs (fun S_9 => ?_))
  refine j_aload_n 107 0 dX12_say_107 rfl rfl ?_
  refine j_geti 108 11 nX12_say_X12 rfl (by decide) (prs_mem (by decide) (by decide)) (by decide) (by decide) wX12_say_f187 (Or.inl rfl) rfl dX12_say_108 ?_
  exact j_iret 111 rfl dX12_say_111
set_option maxRecDepth 100000 in
set_option maxHeartbeats 4000000 in
theorem tX12_say {ad : Nat → Nat → Nat} (X : Ctx) (γ : Nat → Nat) (S : St) (p1 : Int32) (p2 : Int32) (p3 : Int32) (p4 : Int32) : JJ X ad γ (RQm X ad 2 46 outei) (fcm outei) 2 46 cX12_say 6 RX12 wsX12_say (some .int) (fX12_say S p1 p2 p3 p4) S 0 [(0, .ref (ad 11 0)), (1, .int p1), (2, .int p2), (3, .int p3), (4, .int p4)] [] := by
  unfold fX12_say
  refine j_aload_n 0 0 dX12_say_0 rfl rfl ?_
  refine j_iload_n 1 1 dX12_say_1 rfl rfl ?_
  refine j_callV_pi 2 rfl (by decide) (prs_mem (by decide) (by decide))  [.int p1] [] gX12_say_X12_isPerson rfl eX12_isPerson ⟨Nat.le_of_ble_eq_true rfl, Nat.le_of_ble_eq_true rfl⟩ rfl rfl (Nat.le_of_ble_eq_true rfl) dX12_say_2 (kX12_isPerson S p1) (fun b_1 γ => ?_)
  refine j_if_eq 5 28 dX12_say_5 (by decide) (fun _ => ?_) (fun _ => ?_)
  · refine j_iconst (v := (-1)) 28 dX12_say_28 (by decide) ?_
    exact j_iret 29 rfl dX12_say_29
  · refine j_aload_n 8 0 dX12_say_8 rfl rfl ?_
    refine j_iload_n 9 2 dX12_say_9 rfl rfl ?_
    refine j_callV_pi 10 rfl (by decide) (prs_mem (by decide) (by decide))  [.int p2] [] gX12_say_X12_isPerson rfl eX12_isPerson ⟨Nat.le_of_ble_eq_true rfl, Nat.le_of_ble_eq_true rfl⟩ rfl rfl (Nat.le_of_ble_eq_true rfl) dX12_say_10 (kX12_isPerson S p2) (fun b_2 γ => ?_)
    refine j_if_eq 13 28 dX12_say_13 (by decide) (fun _ => ?_) (fun _ => ?_)
    · refine j_iconst (v := (-1)) 28 dX12_say_28 (by decide) ?_
      exact j_iret 29 rfl dX12_say_29
    · refine j_iload_n 16 1 dX12_say_16 rfl rfl ?_
      refine j_iload_n 17 2 dX12_say_17 rfl rfl ?_
      refine j_icmp_eq 18 28 dX12_say_18 (by decide) (fun _ => ?_) (fun _ => ?_)
      · refine j_iconst (v := (-1)) 28 dX12_say_28 (by decide) ?_
        exact j_iret 29 rfl dX12_say_29
      · refine j_iload_n 21 3 dX12_say_21 rfl rfl ?_
        refine j_callS_pi 22  [.int p3] [] gX12_say_X12_isKin rfl eX12_isKin ⟨Nat.le_of_ble_eq_true rfl, Nat.le_of_ble_eq_true rfl⟩ rfl rfl (Nat.le_of_ble_eq_true rfl) dX12_say_22 (kX12_isKin S p3) (fun b_3 γ => ?_)
        refine j_if_ne 25 30 dX12_say_25 (by decide) (fun _ => ?_) (fun _ => ?_)
        · refine j_aload_n 30 0 dX12_say_30 rfl rfl ?_
          refine j_geti 31 11 nX12_say_X12 rfl (by decide) (prs_mem (by decide) (by decide)) (by decide) (by decide) wX12_say_f187 (Or.inl rfl) rfl dX12_say_31 ?_
          refine j_bipush (v := 20) 34 dX12_say_34 (by decide) ?_
          refine j_icmp_ne 36 42 dX12_say_36 (by decide) (fun _ => ?_) (fun _ => ?_)
          · refine j_iconst (v := 4) 42 dX12_say_42 (by decide) ?_
            refine j_aload_n 43 0 dX12_say_43 rfl rfl ?_
            refine j_geti 44 11 nX12_say_X12 rfl (by decide) (prs_mem (by decide) (by decide)) (by decide) (by decide) wX12_say_f187 (Or.inl rfl) rfl dX12_say_44 ?_
            refine j_imul 47 dX12_say_47 ?_
            refine j_bndi (fun x5_4 => ?_)
            refine j_istore (lv2 := [(5, .int x5_4), (0, .ref (ad 11 0)), (1, .int p1), (2, .int p2), (3, .int p3), (4, .int p4)]) 48 dX12_say_48 (by decide) rfl ?_
            refine j_aload_n 50 1 dX12_say_50 rfl rfl ?_
            refine j_getr (c2 := 63) (n2 := 0) 51 12 nX12_say_X12 rfl (by decide) (prs_mem (by decide) (by decide)) (by decide) (by decide) wX12_say_f40 (Or.inl rfl) rfl rfl rfl dX12_say_51 ?_
            refine j_iload 54 0 dX12_say_54 rfl ?_
            refine j_iload_n 56 2 dX12_say_56 rfl rfl ?_
            refine j_iast (c := 63) (n := 0) (L := 80) 57 (prs_mem (by decide) (by decide)) (by decide) rfl rfl rfl dX12_say_57 (j_bs (fun S_5 => ?_))
            refine j_aload_n 58 1 dX12_say_58 rfl rfl ?_
            refine j_getr (c2 := 63) (n2 := 0) 59 12 nX12_say_X12 rfl (by decide) (prs_mem (by decide) (by decide)) (by decide) (by decide) wX12_say_f40 (Or.inl rfl) rfl rfl rfl dX12_say_59 ?_
            refine j_iload 62 0 dX12_say_62 rfl ?_
            refine j_iconst (v := 1) 64 dX12_say_64 (by decide) ?_
            refine j_iadd 65 dX12_say_65 ?_
            refine j_iload_n 66 3 dX12_say_66 rfl rfl ?_
            refine j_iast (c := 63) (n := 0) (L := 80) 67 (prs_mem (by decide) (by decide)) (by decide) rfl rfl rfl dX12_say_67 (j_bs (fun S_6 => ?_))
            refine j_aload_n 68 1 dX12_say_68 rfl rfl ?_
            refine j_getr (c2 := 63) (n2 := 0) 69 12 nX12_say_X12 rfl (by decide) (prs_mem (by decide) (by decide)) (by decide) (by decide) wX12_say_f40 (Or.inl rfl) rfl rfl rfl dX12_say_69 ?_
            refine j_iload 72 0 dX12_say_72 rfl ?_
            refine j_iconst (v := 2) 74 dX12_say_74 (by decide) ?_
            refine j_iadd 75 dX12_say_75 ?_
            refine j_iload_n 76 4 dX12_say_76 rfl rfl ?_
            refine j_iast (c := 63) (n := 0) (L := 80) 77 (prs_mem (by decide) (by decide)) (by decide) rfl rfl rfl dX12_say_77 (j_bs (fun S_7 => ?_))
            refine j_aload_n 78 1 dX12_say_78 rfl rfl ?_
            refine j_getr (c2 := 63) (n2 := 0) 79 12 nX12_say_X12 rfl (by decide) (prs_mem (by decide) (by decide)) (by decide) (by decide) wX12_say_f40 (Or.inl rfl) rfl rfl rfl dX12_say_79 ?_
            refine j_iload 82 0 dX12_say_82 rfl ?_
            refine j_iconst (v := 3) 84 dX12_say_84 (by decide) ?_
            refine j_iadd 85 dX12_say_85 ?_
            refine j_iload 86 5 dX12_say_86 rfl ?_
            refine j_if_eq 88 95 dX12_say_88 (by decide) (fun _ => ?_) (fun _ => ?_)
            · refine j_iconst (v := 0) 95 dX12_say_95 (by decide) ?_
              refine j_sub [1] rfl ?_
              exact tX12_say_j96 X _ S_7 0 (x5_4 + 3)
            · refine j_iconst (v := 1) 91 dX12_say_91 (by decide) ?_
              refine j_goto 92 96 dX12_say_92 (by decide) ?_
              refine j_sub [1] rfl ?_
              exact tX12_say_j96 X _ S_7 1 (x5_4 + 3)
          · refine j_bipush (v := (-3)) 39 dX12_say_39 (by decide) ?_
            exact j_iret 41 rfl dX12_say_41
        · refine j_iconst (v := (-1)) 28 dX12_say_28 (by decide) ?_
          exact j_iret 29 rfl dX12_say_29
set_option maxRecDepth 100000 in
set_option maxHeartbeats 4000000 in
theorem kX12_say {ad : Nat → Nat → Nat} (S : St) (p1 : Int32) (p2 : Int32) (p3 : Int32) (p4 : Int32) : ∀ b, fX12_say S p1 p2 p3 p4 = some b → ∀ l dC dI cy, CT l dC dI cy ad yX12_say wsX12_say 2 46 [.ref (ad 11 0), .int p1, .int p2, .int p3, .int p4] S (some (.int b.1)) b.2 :=
  fun b hb l dC dI cy => ct_of (l := l) (dC := dC) (dI := dI) (cy := cy) outei (by decide) rfl (Nat.le_of_ble_eq_true rfl) rfl (fun X γ => tX12_say X γ S p1 p2 p3 p4) b hb
-- X12_layKins
theorem nX12_layKins_X12 : ∀ w ∈ u_ws RX12 TX12 40, w ∈ wsX12_layKins := by decide +kernel
theorem wX12_layKins_f175 : Cond.fieldLink RX12 175 "TwoTonguesModel" "personMany" "I" ∈ wsX12_layKins := by decide +kernel
theorem wX12_layKins_f76 : Cond.fieldLink RX12 76 "TwoTonguesModel" "kins" "[I" ∈ wsX12_layKins := by decide +kernel
theorem wX12_layKins_f37 : Cond.fieldLink RX12 37 "TwoTonguesModel" "founds" "[I" ∈ wsX12_layKins := by decide +kernel
theorem wX12_layKins_f31 : Cond.fieldLink RX12 31 "TwoTonguesModel" "parents" "[I" ∈ wsX12_layKins := by decide +kernel
set_option maxRecDepth 100000 in
set_option maxHeartbeats 4000000 in
theorem tX12_layKins_j66 {ad : Nat → Nat → Nat} (X : Ctx) (γ : Nat → Nat) (F : Nat) (S : St) (x1 : Int32) (x2 : Int32) (s0 : Int32) (s1 : Int32) (s2 : Int32) (rec : Int32 → St → Option St)  (ih : ∀ (γ : Nat → Nat) (x2 : Int32) (S : St), JJ X ad γ (RQm X ad 0 0 outev) (fcm outev) 0 0 cX12_layKins 3 RX12 wsX12_layKins none (rec x2 S) S 26 [(0, .ref (ad 11 0)), (1, .int x1), (2, .int x2)] []) : JJ X ad γ (RQm X ad 0 0 outev) (fcm outev) 0 0 cX12_layKins 3 RX12 wsX12_layKins none (fX12_layKins_j66 F S x1 x2 s0 s1 s2 rec) S 66 [(0, .ref (ad 11 0)), (1, .int x1), (2, .int x2)] [.int s0, .int s1, .int s2, .ref (ad 75 0)] := by
  unfold fX12_layKins_j66
  refine j_ior 66 dX12_layKins_66 ?_
  refine j_iast (c := 75) (n := 0) (L := 30) 67 (prs_mem (by decide) (by decide)) (by decide) rfl rfl rfl dX12_layKins_67 (j_bs (fun S_3 => ?_))
  refine j_iinc (v := x2 + 1) (lv2 := [(2, .int (x2 + 1)), (0, .ref (ad 11 0)), (1, .int x1)]) 68 2 dX12_layKins_68 rfl rfl (by decide) rfl ?_
  refine j_goto 71 26 dX12_layKins_71 (by decide) ?_
  refine j_sub [1, 2, 0] rfl ?_
  exact ih _ (x2 + 1) S_3
set_option maxRecDepth 100000 in
set_option maxHeartbeats 4000000 in
theorem tX12_layKins_L26 {ad : Nat → Nat → Nat} (X : Ctx) (F : Nat) (x1 : Int32) (k74 : St → Option St)  (hk74 : ∀ (γ : Nat → Nat) (S : St), JJ X ad γ (RQm X ad 0 0 outev) (fcm outev) 0 0 cX12_layKins 3 RX12 wsX12_layKins none (k74 S) S 74 [(0, .ref (ad 11 0)), (1, .int x1)] []) : ∀ (n : Nat) (γ : Nat → Nat) (x2 : Int32) (S : St), JJ X ad γ (RQm X ad 0 0 outev) (fcm outev) 0 0 cX12_layKins 3 RX12 wsX12_layKins none (fX12_layKins_L26 F x1 k74 n x2 S) S 26 [(0, .ref (ad 11 0)), (1, .int x1), (2, .int x2)] [] := by
  intro n
  induction n with
  | zero => intro _ _ _; exact j_none
  | succ n ih =>
    intro γ x2 S
    rw [show fX12_layKins_L26 F x1 k74 (n + 1) x2 S = fX12_layKins_b26 F x1 k74 (fX12_layKins_L26 F x1 k74 n) x2 S from rfl]
    unfold fX12_layKins_b26
    refine j_iload_n 26 2 dX12_layKins_26 rfl rfl ?_
    refine j_iconst (v := 2) 27 dX12_layKins_27 (by decide) ?_
    refine j_iload_n 28 1 dX12_layKins_28 rfl rfl ?_
    refine j_imul 29 dX12_layKins_29 ?_
    refine j_iconst (v := 2) 30 dX12_layKins_30 (by decide) ?_
    refine j_iadd 31 dX12_layKins_31 ?_
    refine j_icmp_ge 32 74 dX12_layKins_32 (by decide) (fun _ => ?_) (fun _ => ?_)
    · refine j_sub [0, 1] rfl ?_
      exact hk74 _ S
    · refine j_aload_n 35 0 dX12_layKins_35 rfl rfl ?_
      refine j_getr (c2 := 75) (n2 := 0) 36 31 nX12_layKins_X12 rfl (by decide) (prs_mem (by decide) (by decide)) (by decide) (by decide) wX12_layKins_f76 (Or.inl rfl) rfl rfl rfl dX12_layKins_36 ?_
      refine j_iload_n 39 1 dX12_layKins_39 rfl rfl ?_
      refine j_dup2 40 dX12_layKins_40 rfl rfl ?_
      refine j_iald (c := 75) (n := 0) (L := 30) 41 (prs_mem (by decide) (by decide)) (by decide) rfl rfl rfl dX12_layKins_41 ?_
      refine j_aload_n 42 0 dX12_layKins_42 rfl rfl ?_
      refine j_getr (c2 := 60) (n2 := 0) 43 8 nX12_layKins_X12 rfl (by decide) (prs_mem (by decide) (by decide)) (by decide) (by decide) wX12_layKins_f31 (Or.inl rfl) rfl rfl rfl dX12_layKins_43 ?_
      refine j_iload_n 46 2 dX12_layKins_46 rfl rfl ?_
      refine j_iald (c := 60) (n := 0) (L := 60) 47 (prs_mem (by decide) (by decide)) (by decide) rfl rfl rfl dX12_layKins_47 ?_
      refine j_if_lt 48 65 dX12_layKins_48 (by decide) (fun _ => ?_) (fun _ => ?_)
      · refine j_iconst (v := 0) 65 dX12_layKins_65 (by decide) ?_
        exact tX12_layKins_j66 X _ F S x1 x2 0 (gA S 75 0 x1.toNatClampNeg) x1 _ ih
      · refine j_aload_n 51 0 dX12_layKins_51 rfl rfl ?_
        refine j_getr (c2 := 75) (n2 := 0) 52 31 nX12_layKins_X12 rfl (by decide) (prs_mem (by decide) (by decide)) (by decide) (by decide) wX12_layKins_f76 (Or.inl rfl) rfl rfl rfl dX12_layKins_52 ?_
        refine j_aload_n 55 0 dX12_layKins_55 rfl rfl ?_
        refine j_getr (c2 := 60) (n2 := 0) 56 8 nX12_layKins_X12 rfl (by decide) (prs_mem (by decide) (by decide)) (by decide) (by decide) wX12_layKins_f31 (Or.inl rfl) rfl rfl rfl dX12_layKins_56 ?_
        refine j_iload_n 59 2 dX12_layKins_59 rfl rfl ?_
        refine j_iald (c := 60) (n := 0) (L := 60) 60 (prs_mem (by decide) (by decide)) (by decide) rfl rfl rfl dX12_layKins_60 ?_
        refine j_iald (c := 75) (n := 0) (L := 30) 61 (prs_mem (by decide) (by decide)) (by decide) rfl rfl rfl dX12_layKins_61 ?_
        refine j_goto 62 66 dX12_layKins_62 (by decide) ?_
        exact tX12_layKins_j66 X _ F S x1 x2 (gA S 75 0 (gA S 60 0 x2.toNatClampNeg).toNatClampNeg) (gA S 75 0 x1.toNatClampNeg) x1 _ ih
set_option maxRecDepth 100000 in
set_option maxHeartbeats 4000000 in
theorem tX12_layKins_L2 {ad : Nat → Nat → Nat} (X : Ctx) (F : Nat)   : ∀ (n : Nat) (γ : Nat → Nat) (x1 : Int32) (S : St), JJ X ad γ (RQm X ad 0 0 outev) (fcm outev) 0 0 cX12_layKins 3 RX12 wsX12_layKins none (fX12_layKins_L2 F n x1 S) S 2 [(0, .ref (ad 11 0)), (1, .int x1)] [] := by
  intro n
  induction n with
  | zero => intro _ _ _; exact j_none
  | succ n ih =>
    intro γ x1 S
    rw [show fX12_layKins_L2 F (n + 1) x1 S = fX12_layKins_b2 F (fX12_layKins_L2 F n) x1 S from rfl]
    unfold fX12_layKins_b2
    refine j_iload_n 2 1 dX12_layKins_2 rfl rfl ?_
    refine j_aload_n 3 0 dX12_layKins_3 rfl rfl ?_
    refine j_geti 4 6 nX12_layKins_X12 rfl (by decide) (prs_mem (by decide) (by decide)) (by decide) (by decide) wX12_layKins_f175 (Or.inl rfl) rfl dX12_layKins_4 ?_
    refine j_icmp_ge 7 80 dX12_layKins_7 (by decide) (fun _ => ?_) (fun _ => ?_)
    · exact j_vret 80 rfl dX12_layKins_80
    · refine j_aload_n 10 0 dX12_layKins_10 rfl rfl ?_
      refine j_getr (c2 := 75) (n2 := 0) 11 31 nX12_layKins_X12 rfl (by decide) (prs_mem (by decide) (by decide)) (by decide) (by decide) wX12_layKins_f76 (Or.inl rfl) rfl rfl rfl dX12_layKins_11 ?_
      refine j_iload_n 14 1 dX12_layKins_14 rfl rfl ?_
      refine j_aload_n 15 0 dX12_layKins_15 rfl rfl ?_
      refine j_getr (c2 := 62) (n2 := 0) 16 10 nX12_layKins_X12 rfl (by decide) (prs_mem (by decide) (by decide)) (by decide) (by decide) wX12_layKins_f37 (Or.inl rfl) rfl rfl rfl dX12_layKins_16 ?_
      refine j_iload_n 19 1 dX12_layKins_19 rfl rfl ?_
      refine j_iald (c := 62) (n := 0) (L := 30) 20 (prs_mem (by decide) (by decide)) (by decide) rfl rfl rfl dX12_layKins_20 ?_
      refine j_iast (c := 75) (n := 0) (L := 30) 21 (prs_mem (by decide) (by decide)) (by decide) rfl rfl rfl dX12_layKins_21 (j_bs (fun S_1 => ?_))
      refine j_iconst (v := 2) 22 dX12_layKins_22 (by decide) ?_
      refine j_iload_n 23 1 dX12_layKins_23 rfl rfl ?_
      refine j_imul 24 dX12_layKins_24 ?_
      refine j_bndi (fun x2_2 => ?_)
      refine j_istore_n (lv2 := [(2, .int x2_2), (0, .ref (ad 11 0)), (1, .int x1)]) 25 dX12_layKins_25 rfl (by decide) rfl ?_
      refine j_sub [1, 2, 0] rfl ?_
      refine tX12_layKins_L26 X F x1 _ (fun γ S_4 => ?_) F _ x2_2 S_1
      refine j_iinc (v := x1 + 1) (lv2 := [(1, .int (x1 + 1)), (0, .ref (ad 11 0))]) 74 1 dX12_layKins_74 rfl rfl (by decide) rfl ?_
      refine j_goto 77 2 dX12_layKins_77 (by decide) ?_
      refine j_sub [1, 0] rfl ?_
      exact ih _ (x1 + 1) S_4
set_option maxRecDepth 100000 in
set_option maxHeartbeats 4000000 in
theorem tX12_layKins {ad : Nat → Nat → Nat} (X : Ctx) (γ : Nat → Nat) (F : Nat) (S : St) : JJ X ad γ (RQm X ad 0 0 outev) (fcm outev) 0 0 cX12_layKins 3 RX12 wsX12_layKins none (fX12_layKins F S) S 0 [(0, .ref (ad 11 0))] [] := by
  unfold fX12_layKins
  refine j_iconst (v := 0) 0 dX12_layKins_0 (by decide) ?_
  refine j_istore_n (lv2 := [(1, .int 0), (0, .ref (ad 11 0))]) 1 dX12_layKins_1 rfl (by decide) rfl ?_
  refine j_sub [1, 0] rfl ?_
  exact tX12_layKins_L2 X F F _ 0 S
set_option maxRecDepth 100000 in
set_option maxHeartbeats 4000000 in
theorem kX12_layKins {ad : Nat → Nat → Nat} (F : Nat) (S : St) : ∀ b, fX12_layKins F S = some b → ∀ l dC dI cy, CT l dC dI cy ad yX12_layKins wsX12_layKins 0 0 [.ref (ad 11 0)] S (none) b :=
  fun b hb l dC dI cy => ct_of (l := l) (dC := dC) (dI := dI) (cy := cy) outev (by decide) rfl (Nat.le_of_ble_eq_true rfl) rfl (fun X γ => tX12_layKins X γ F S) b hb
-- X12_of
theorem nX12_of_X12 : ∀ w ∈ u_ws RX12 TX12 40, w ∈ wsX12_of := by decide +kernel
theorem wX12_of_f76 : Cond.fieldLink RX12 76 "TwoTonguesModel" "kins" "[I" ∈ wsX12_of := by decide +kernel
theorem wX12_of_f187 : Cond.fieldLink RX12 187 "TwoTonguesModel" "sayingMany" "I" ∈ wsX12_of := by decide +kernel
theorem wX12_of_f40 : Cond.fieldLink RX12 40 "TwoTonguesModel" "sayings" "[I" ∈ wsX12_of := by decide +kernel
set_option maxRecDepth 100000 in
set_option maxHeartbeats 4000000 in
theorem tX12_of_L41 {ad : Nat → Nat → Nat} (X : Ctx) (F : Nat) (S : St) (x1 : Int32) (x2 : Int32)   : ∀ (n : Nat) (γ : Nat → Nat) (x3 : Int32) (x4 : Int32), JJ X ad γ (RQm X ad 2 46 outei) (fcm outei) 2 46 cX12_of 5 RX12 wsX12_of (some .int) (fX12_of_L41 F S x1 x2 n x3 x4) S 41 [(0, .ref (ad 11 0)), (1, .int x1), (2, .int x2), (3, .int x3), (4, .int x4)] [] := by
  intro n
  induction n with
  | zero => intro _ _ _; exact j_none
  | succ n ih =>
    intro γ x3 x4
    rw [show fX12_of_L41 F S x1 x2 (n + 1) x3 x4 = fX12_of_b41 F S x1 x2 (fX12_of_L41 F S x1 x2 n) x3 x4 from rfl]
    unfold fX12_of_b41
    refine j_iload 41 4 dX12_of_41 rfl ?_
    refine j_iconst (v := 4) 43 dX12_of_43 (by decide) ?_
    refine j_aload_n 44 0 dX12_of_44 rfl rfl ?_
    refine j_geti 45 11 nX12_of_X12 rfl (by decide) (prs_mem (by decide) (by decide)) (by decide) (by decide) wX12_of_f187 (Or.inl rfl) rfl dX12_of_45 ?_
    refine j_imul 48 dX12_of_48 ?_
    refine j_icmp_ge 49 98 dX12_of_49 (by decide) (fun _ => ?_) (fun _ => ?_)
    · refine j_iload_n 98 3 dX12_of_98 rfl rfl ?_
      exact j_iret 99 rfl dX12_of_99
    · refine j_aload_n 52 0 dX12_of_52 rfl rfl ?_
      refine j_getr (c2 := 63) (n2 := 0) 53 12 nX12_of_X12 rfl (by decide) (prs_mem (by decide) (by decide)) (by decide) (by decide) wX12_of_f40 (Or.inl rfl) rfl rfl rfl dX12_of_53 ?_
      refine j_iload 56 4 dX12_of_56 rfl ?_
      refine j_iconst (v := 1) 58 dX12_of_58 (by decide) ?_
      refine j_iadd 59 dX12_of_59 ?_
      refine j_iald (c := 63) (n := 0) (L := 80) 60 (prs_mem (by decide) (by decide)) (by decide) rfl rfl rfl dX12_of_60 ?_
      refine j_iload_n 61 1 dX12_of_61 rfl rfl ?_
      refine j_icmp_ne 62 90 dX12_of_62 (by decide) (fun _ => ?_) (fun _ => ?_)
      · refine j_iload_n 90 3 dX12_of_90 rfl rfl ?_
        refine j_istore_n (lv2 := [(3, .int x3), (0, .ref (ad 11 0)), (1, .int x1), (2, .int x2), (4, .int x4)]) 91 dX12_of_91 rfl (by decide) rfl ?_
        refine j_iinc (v := x4 + 4) (lv2 := [(4, .int (x4 + 4)), (3, .int x3), (0, .ref (ad 11 0)), (1, .int x1), (2, .int x2)]) 92 4 dX12_of_92 rfl rfl (by decide) rfl ?_
        refine j_goto 95 41 dX12_of_95 (by decide) ?_
        refine j_sub [2, 3, 4, 1, 0] rfl ?_
        exact ih _ x3 (x4 + 4)
      · refine j_aload_n 65 0 dX12_of_65 rfl rfl ?_
        refine j_getr (c2 := 63) (n2 := 0) 66 12 nX12_of_X12 rfl (by decide) (prs_mem (by decide) (by decide)) (by decide) (by decide) wX12_of_f40 (Or.inl rfl) rfl rfl rfl dX12_of_66 ?_
        refine j_iload 69 4 dX12_of_69 rfl ?_
        refine j_iconst (v := 2) 71 dX12_of_71 (by decide) ?_
        refine j_iadd 72 dX12_of_72 ?_
        refine j_iald (c := 63) (n := 0) (L := 80) 73 (prs_mem (by decide) (by decide)) (by decide) rfl rfl rfl dX12_of_73 ?_
        refine j_iload_n 74 2 dX12_of_74 rfl rfl ?_
        refine j_icmp_ne 75 90 dX12_of_75 (by decide) (fun _ => ?_) (fun _ => ?_)
        · refine j_iload_n 90 3 dX12_of_90 rfl rfl ?_
          refine j_istore_n (lv2 := [(3, .int x3), (0, .ref (ad 11 0)), (1, .int x1), (2, .int x2), (4, .int x4)]) 91 dX12_of_91 rfl (by decide) rfl ?_
          refine j_iinc (v := x4 + 4) (lv2 := [(4, .int (x4 + 4)), (3, .int x3), (0, .ref (ad 11 0)), (1, .int x1), (2, .int x2)]) 92 4 dX12_of_92 rfl rfl (by decide) rfl ?_
          refine j_goto 95 41 dX12_of_95 (by decide) ?_
          refine j_sub [2, 3, 4, 1, 0] rfl ?_
          exact ih _ x3 (x4 + 4)
        · refine j_aload_n 78 0 dX12_of_78 rfl rfl ?_
          refine j_getr (c2 := 63) (n2 := 0) 79 12 nX12_of_X12 rfl (by decide) (prs_mem (by decide) (by decide)) (by decide) (by decide) wX12_of_f40 (Or.inl rfl) rfl rfl rfl dX12_of_79 ?_
          refine j_iload 82 4 dX12_of_82 rfl ?_
          refine j_iconst (v := 3) 84 dX12_of_84 (by decide) ?_
          refine j_iadd 85 dX12_of_85 ?_
          refine j_iald (c := 63) (n := 0) (L := 80) 86 (prs_mem (by decide) (by decide)) (by decide) rfl rfl rfl dX12_of_86 ?_
          refine j_goto 87 91 dX12_of_87 (by decide) ?_
          refine j_bndi (fun x3_5 => ?_)
          refine j_istore_n (lv2 := [(3, .int x3_5), (0, .ref (ad 11 0)), (1, .int x1), (2, .int x2), (4, .int x4)]) 91 dX12_of_91 rfl (by decide) rfl ?_
          refine j_iinc (v := x4 + 4) (lv2 := [(4, .int (x4 + 4)), (3, .int x3_5), (0, .ref (ad 11 0)), (1, .int x1), (2, .int x2)]) 92 4 dX12_of_92 rfl rfl (by decide) rfl ?_
          refine j_goto 95 41 dX12_of_95 (by decide) ?_
          refine j_sub [2, 3, 4, 1, 0] rfl ?_
          exact ih _ x3_5 (x4 + 4)
set_option maxRecDepth 100000 in
set_option maxHeartbeats 4000000 in
theorem tX12_of {ad : Nat → Nat → Nat} (X : Ctx) (γ : Nat → Nat) (F : Nat) (S : St) (p1 : Int32) (p2 : Int32) : JJ X ad γ (RQm X ad 2 46 outei) (fcm outei) 2 46 cX12_of 5 RX12 wsX12_of (some .int) (fX12_of F S p1 p2) S 0 [(0, .ref (ad 11 0)), (1, .int p1), (2, .int p2)] [] := by
  unfold fX12_of
  refine j_aload_n 0 0 dX12_of_0 rfl rfl ?_
  refine j_iload_n 1 1 dX12_of_1 rfl rfl ?_
  refine j_callV_pi 2 rfl (by decide) (prs_mem (by decide) (by decide))  [.int p1] [] gX12_of_X12_isPerson rfl eX12_isPerson ⟨Nat.le_of_ble_eq_true rfl, Nat.le_of_ble_eq_true rfl⟩ rfl rfl (Nat.le_of_ble_eq_true rfl) dX12_of_2 (kX12_isPerson S p1) (fun b_1 γ => ?_)
  refine j_if_eq 5 15 dX12_of_5 (by decide) (fun _ => ?_) (fun _ => ?_)
  · refine j_iconst (v := (-1)) 15 dX12_of_15 (by decide) ?_
    exact j_iret 16 rfl dX12_of_16
  · refine j_iload_n 8 2 dX12_of_8 rfl rfl ?_
    refine j_callS_pi 9  [.int p2] [] gX12_of_X12_isKin rfl eX12_isKin ⟨Nat.le_of_ble_eq_true rfl, Nat.le_of_ble_eq_true rfl⟩ rfl rfl (Nat.le_of_ble_eq_true rfl) dX12_of_9 (kX12_isKin S p2) (fun b_2 γ => ?_)
    refine j_if_ne 12 17 dX12_of_12 (by decide) (fun _ => ?_) (fun _ => ?_)
    · refine j_aload_n 17 0 dX12_of_17 rfl rfl ?_
      refine j_callV_ev 18 rfl (by decide) (prs_mem (by decide) (by decide))  [] [] gX12_of_X12_layKins rfl eX12_layKins ⟨Nat.le_of_ble_eq_true rfl, Nat.le_of_ble_eq_true rfl⟩ rfl rfl (Nat.le_of_ble_eq_true rfl) dX12_of_18 (kX12_layKins F S) (fun b_3 γ => ?_)
      refine j_aload_n 21 0 dX12_of_21 rfl rfl ?_
      refine j_getr (c2 := 75) (n2 := 0) 22 31 nX12_of_X12 rfl (by decide) (prs_mem (by decide) (by decide)) (by decide) (by decide) wX12_of_f76 (Or.inl rfl) rfl rfl rfl dX12_of_22 ?_
      refine j_iload_n 25 1 dX12_of_25 rfl rfl ?_
      refine j_iald (c := 75) (n := 0) (L := 30) 26 (prs_mem (by decide) (by decide)) (by decide) rfl rfl rfl dX12_of_26 ?_
      refine j_iload_n 27 2 dX12_of_27 rfl rfl ?_
      refine j_callS_pi 28  [.int (gA b_3 75 0 p1.toNatClampNeg), .int p2] [] gX12_of_X12_has rfl eX12_has ⟨Nat.le_of_ble_eq_true rfl, Nat.le_of_ble_eq_true rfl⟩ rfl rfl (Nat.le_of_ble_eq_true rfl) dX12_of_28 (kX12_has b_3 (gA b_3 75 0 p1.toNatClampNeg) p2) (fun b_4 γ => ?_)
      refine j_if_eq 31 36 dX12_of_31 (by decide) (fun _ => ?_) (fun _ => ?_)
      · refine j_iconst (v := 0) 36 dX12_of_36 (by decide) ?_
        refine j_istore_n (lv2 := [(3, .int 0), (0, .ref (ad 11 0)), (1, .int p1), (2, .int p2)]) 37 dX12_of_37 rfl (by decide) rfl ?_
        refine j_iconst (v := 0) 38 dX12_of_38 (by decide) ?_
        refine j_istore (lv2 := [(4, .int 0), (3, .int 0), (0, .ref (ad 11 0)), (1, .int p1), (2, .int p2)]) 39 dX12_of_39 (by decide) rfl ?_
        refine j_sub [2, 3, 4, 1, 0] rfl ?_
        exact tX12_of_L41 X F b_3 p1 p2 F _ 0 0
      · refine j_iconst (v := 2) 34 dX12_of_34 (by decide) ?_
        exact j_iret 35 rfl dX12_of_35
    · refine j_iconst (v := (-1)) 15 dX12_of_15 (by decide) ?_
      exact j_iret 16 rfl dX12_of_16
set_option maxRecDepth 100000 in
set_option maxHeartbeats 4000000 in
theorem kX12_of {ad : Nat → Nat → Nat} (F : Nat) (S : St) (p1 : Int32) (p2 : Int32) : ∀ b, fX12_of F S p1 p2 = some b → ∀ l dC dI cy, CT l dC dI cy ad yX12_of wsX12_of 2 46 [.ref (ad 11 0), .int p1, .int p2] S (some (.int b.1)) b.2 :=
  fun b hb l dC dI cy => ct_of (l := l) (dC := dC) (dI := dI) (cy := cy) outei (by decide) rfl (Nat.le_of_ble_eq_true rfl) rfl (fun X γ => tX12_of X γ F S p1 p2) b hb
-- X12_odds
theorem nX12_odds_X12 : ∀ w ∈ u_ws RX12 TX12 40, w ∈ wsX12_odds := by decide +kernel
theorem wX12_odds_f175 : Cond.fieldLink RX12 175 "TwoTonguesModel" "personMany" "I" ∈ wsX12_odds := by decide +kernel
theorem wX12_odds_f187 : Cond.fieldLink RX12 187 "TwoTonguesModel" "sayingMany" "I" ∈ wsX12_odds := by decide +kernel
theorem wX12_odds_f40 : Cond.fieldLink RX12 40 "TwoTonguesModel" "sayings" "[I" ∈ wsX12_odds := by decide +kernel
set_option maxRecDepth 100000 in
set_option maxHeartbeats 4000000 in
theorem tX12_odds_L41 {ad : Nat → Nat → Nat} (X : Ctx) (F : Nat) (S : St) (x1 : Int32) (x2 : Int32) (x3 : Int32) (x4 : Int32) (x5 : Int32) (k112 : Int32 → Option Int32)  (hk112 : ∀ (γ : Nat → Nat) (x6 : Int32), JJ X ad γ (RQm X ad 2 46 (outpi S)) (fcm (outpi S)) 2 46 cX12_odds 8 RX12 wsX12_odds (some .int) (k112 x6) S 112 [(0, .ref (ad 11 0)), (1, .int x1), (2, .int x2), (3, .int x3), (4, .int x4), (5, .int x5), (6, .int x6)] []) : ∀ (n : Nat) (γ : Nat → Nat) (x6 : Int32) (x7 : Int32), JJ X ad γ (RQm X ad 2 46 (outpi S)) (fcm (outpi S)) 2 46 cX12_odds 8 RX12 wsX12_odds (some .int) (fX12_odds_L41 F S x1 x2 x3 x4 x5 k112 n x6 x7) S 41 [(0, .ref (ad 11 0)), (1, .int x1), (2, .int x2), (3, .int x3), (4, .int x4), (5, .int x5), (6, .int x6), (7, .int x7)] [] := by
  intro n
  induction n with
  | zero => intro _ _ _; exact j_none
  | succ n ih =>
    intro γ x6 x7
    rw [show fX12_odds_L41 F S x1 x2 x3 x4 x5 k112 (n + 1) x6 x7 = fX12_odds_b41 F S x1 x2 x3 x4 x5 k112 (fX12_odds_L41 F S x1 x2 x3 x4 x5 k112 n) x6 x7 from rfl]
    unfold fX12_odds_b41
    refine j_iload 41 7 dX12_odds_41 rfl ?_
    refine j_iconst (v := 4) 43 dX12_odds_43 (by decide) ?_
    refine j_aload_n 44 0 dX12_odds_44 rfl rfl ?_
    refine j_geti 45 11 nX12_odds_X12 rfl (by decide) (prs_mem (by decide) (by decide)) (by decide) (by decide) wX12_odds_f187 (Or.inl rfl) rfl dX12_odds_45 ?_
    refine j_imul 48 dX12_odds_48 ?_
    refine j_icmp_ge 49 112 dX12_odds_49 (by decide) (fun _ => ?_) (fun _ => ?_)
    · refine j_sub [0, 1, 2, 3, 4, 5, 6] rfl ?_
      exact hk112 _ x6
    · refine j_aload_n 52 0 dX12_odds_52 rfl rfl ?_
      refine j_getr (c2 := 63) (n2 := 0) 53 12 nX12_odds_X12 rfl (by decide) (prs_mem (by decide) (by decide)) (by decide) (by decide) wX12_odds_f40 (Or.inl rfl) rfl rfl rfl dX12_odds_53 ?_
      refine j_iload 56 7 dX12_odds_56 rfl ?_
      refine j_iald (c := 63) (n := 0) (L := 80) 58 (prs_mem (by decide) (by decide)) (by decide) rfl rfl rfl dX12_odds_58 ?_
      refine j_iload 59 5 dX12_odds_59 rfl ?_
      refine j_icmp_ne 61 102 dX12_odds_61 (by decide) (fun _ => ?_) (fun _ => ?_)
      · refine j_iload 102 6 dX12_odds_102 rfl ?_
        refine j_istore (lv2 := [(6, .int x6), (0, .ref (ad 11 0)), (1, .int x1), (2, .int x2), (3, .int x3), (4, .int x4), (5, .int x5), (7, .int x7)]) 104 dX12_odds_104 (by decide) rfl ?_
        refine j_iinc (v := x7 + 4) (lv2 := [(7, .int (x7 + 4)), (6, .int x6), (0, .ref (ad 11 0)), (1, .int x1), (2, .int x2), (3, .int x3), (4, .int x4), (5, .int x5)]) 106 7 dX12_odds_106 rfl rfl (by decide) rfl ?_
        refine j_goto 109 41 dX12_odds_109 (by decide) ?_
        refine j_sub [2, 3, 4, 5, 6, 7, 1, 0] rfl ?_
        exact ih _ x6 (x7 + 4)
      · refine j_aload_n 64 0 dX12_odds_64 rfl rfl ?_
        refine j_getr (c2 := 63) (n2 := 0) 65 12 nX12_odds_X12 rfl (by decide) (prs_mem (by decide) (by decide)) (by decide) (by decide) wX12_odds_f40 (Or.inl rfl) rfl rfl rfl dX12_odds_65 ?_
        refine j_iload 68 7 dX12_odds_68 rfl ?_
        refine j_iconst (v := 1) 70 dX12_odds_70 (by decide) ?_
        refine j_iadd 71 dX12_odds_71 ?_
        refine j_iald (c := 63) (n := 0) (L := 80) 72 (prs_mem (by decide) (by decide)) (by decide) rfl rfl rfl dX12_odds_72 ?_
        refine j_iload_n 73 1 dX12_odds_73 rfl rfl ?_
        refine j_icmp_ne 74 102 dX12_odds_74 (by decide) (fun _ => ?_) (fun _ => ?_)
        · refine j_iload 102 6 dX12_odds_102 rfl ?_
          refine j_istore (lv2 := [(6, .int x6), (0, .ref (ad 11 0)), (1, .int x1), (2, .int x2), (3, .int x3), (4, .int x4), (5, .int x5), (7, .int x7)]) 104 dX12_odds_104 (by decide) rfl ?_
          refine j_iinc (v := x7 + 4) (lv2 := [(7, .int (x7 + 4)), (6, .int x6), (0, .ref (ad 11 0)), (1, .int x1), (2, .int x2), (3, .int x3), (4, .int x4), (5, .int x5)]) 106 7 dX12_odds_106 rfl rfl (by decide) rfl ?_
          refine j_goto 109 41 dX12_odds_109 (by decide) ?_
          refine j_sub [2, 3, 4, 5, 6, 7, 1, 0] rfl ?_
          exact ih _ x6 (x7 + 4)
        · refine j_aload_n 77 0 dX12_odds_77 rfl rfl ?_
          refine j_getr (c2 := 63) (n2 := 0) 78 12 nX12_odds_X12 rfl (by decide) (prs_mem (by decide) (by decide)) (by decide) (by decide) wX12_odds_f40 (Or.inl rfl) rfl rfl rfl dX12_odds_78 ?_
          refine j_iload 81 7 dX12_odds_81 rfl ?_
          refine j_iconst (v := 2) 83 dX12_odds_83 (by decide) ?_
          refine j_iadd 84 dX12_odds_84 ?_
          refine j_iald (c := 63) (n := 0) (L := 80) 85 (prs_mem (by decide) (by decide)) (by decide) rfl rfl rfl dX12_odds_85 ?_
          refine j_iload_n 86 2 dX12_odds_86 rfl rfl ?_
          refine j_icmp_ne 87 102 dX12_odds_87 (by decide) (fun _ => ?_) (fun _ => ?_)
          · refine j_iload 102 6 dX12_odds_102 rfl ?_
            refine j_istore (lv2 := [(6, .int x6), (0, .ref (ad 11 0)), (1, .int x1), (2, .int x2), (3, .int x3), (4, .int x4), (5, .int x5), (7, .int x7)]) 104 dX12_odds_104 (by decide) rfl ?_
            refine j_iinc (v := x7 + 4) (lv2 := [(7, .int (x7 + 4)), (6, .int x6), (0, .ref (ad 11 0)), (1, .int x1), (2, .int x2), (3, .int x3), (4, .int x4), (5, .int x5)]) 106 7 dX12_odds_106 rfl rfl (by decide) rfl ?_
            refine j_goto 109 41 dX12_odds_109 (by decide) ?_
            refine j_sub [2, 3, 4, 5, 6, 7, 1, 0] rfl ?_
            exact ih _ x6 (x7 + 4)
          · refine j_aload_n 90 0 dX12_odds_90 rfl rfl ?_
            refine j_getr (c2 := 63) (n2 := 0) 91 12 nX12_odds_X12 rfl (by decide) (prs_mem (by decide) (by decide)) (by decide) (by decide) wX12_odds_f40 (Or.inl rfl) rfl rfl rfl dX12_odds_91 ?_
            refine j_iload 94 7 dX12_odds_94 rfl ?_
            refine j_iconst (v := 3) 96 dX12_odds_96 (by decide) ?_
            refine j_iadd 97 dX12_odds_97 ?_
            refine j_iald (c := 63) (n := 0) (L := 80) 98 (prs_mem (by decide) (by decide)) (by decide) rfl rfl rfl dX12_odds_98 ?_
            refine j_goto 99 104 dX12_odds_99 (by decide) ?_
            refine j_bndi (fun x6_3 => ?_)
            refine j_istore (lv2 := [(6, .int x6_3), (0, .ref (ad 11 0)), (1, .int x1), (2, .int x2), (3, .int x3), (4, .int x4), (5, .int x5), (7, .int x7)]) 104 dX12_odds_104 (by decide) rfl ?_
            refine j_iinc (v := x7 + 4) (lv2 := [(7, .int (x7 + 4)), (6, .int x6_3), (0, .ref (ad 11 0)), (1, .int x1), (2, .int x2), (3, .int x3), (4, .int x4), (5, .int x5)]) 106 7 dX12_odds_106 rfl rfl (by decide) rfl ?_
            refine j_goto 109 41 dX12_odds_109 (by decide) ?_
            refine j_sub [2, 3, 4, 5, 6, 7, 1, 0] rfl ?_
            exact ih _ x6_3 (x7 + 4)
set_option maxRecDepth 100000 in
set_option maxHeartbeats 4000000 in
theorem tX12_odds_j124 {ad : Nat → Nat → Nat} (X : Ctx) (γ : Nat → Nat) (F : Nat) (S : St) (x1 : Int32) (x2 : Int32) (x4 : Int32) (x5 : Int32) (x6 : Int32) (s0 : Int32) (s1 : Int32) (rec : Int32 → Int32 → Int32 → Option Int32)  (ih : ∀ (γ : Nat → Nat) (x3 : Int32) (x4 : Int32) (x5 : Int32), JJ X ad γ (RQm X ad 2 46 (outpi S)) (fcm (outpi S)) 2 46 cX12_odds 8 RX12 wsX12_odds (some .int) (rec x3 x4 x5) S 25 [(0, .ref (ad 11 0)), (1, .int x1), (2, .int x2), (3, .int x3), (4, .int x4), (5, .int x5)] []) : JJ X ad γ (RQm X ad 2 46 (outpi S)) (fcm (outpi S)) 2 46 cX12_odds 8 RX12 wsX12_odds (some .int) (fX12_odds_j124 F S x1 x2 x4 x5 x6 s0 s1 rec) S 124 [(0, .ref (ad 11 0)), (1, .int x1), (2, .int x2), (4, .int x4), (5, .int x5), (6, .int x6)] [.int s0, .int s1] := by
  unfold fX12_odds_j124
  refine j_iadd 124 dX12_odds_124 ?_
  refine j_bndi (fun x3_5 => ?_)
  refine j_istore_n (lv2 := [(3, .int x3_5), (0, .ref (ad 11 0)), (1, .int x1), (2, .int x2), (4, .int x4), (5, .int x5), (6, .int x6)]) 125 dX12_odds_125 rfl (by decide) rfl ?_
  refine j_iload 126 4 dX12_odds_126 rfl ?_
  refine j_iload 128 6 dX12_odds_128 rfl ?_
  refine j_if_ne 130 137 dX12_odds_130 (by decide) (fun _ => ?_) (fun _ => ?_)
  · refine j_iconst (v := 0) 137 dX12_odds_137 (by decide) ?_
    refine j_iadd 138 dX12_odds_138 ?_
    refine j_bndi (fun x4_6 => ?_)
    refine j_istore (lv2 := [(4, .int x4_6), (3, .int x3_5), (0, .ref (ad 11 0)), (1, .int x1), (2, .int x2), (5, .int x5), (6, .int x6)]) 139 dX12_odds_139 (by decide) rfl ?_
    refine j_iinc (v := x5 + 1) (lv2 := [(5, .int (x5 + 1)), (4, .int x4_6), (3, .int x3_5), (0, .ref (ad 11 0)), (1, .int x1), (2, .int x2), (6, .int x6)]) 141 5 dX12_odds_141 rfl rfl (by decide) rfl ?_
    refine j_goto 144 25 dX12_odds_144 (by decide) ?_
    refine j_sub [3, 4, 5, 2, 1, 0] rfl ?_
    exact ih _ x3_5 x4_6 (x5 + 1)
  · refine j_iconst (v := 1) 133 dX12_odds_133 (by decide) ?_
    refine j_goto 134 138 dX12_odds_134 (by decide) ?_
    refine j_iadd 138 dX12_odds_138 ?_
    refine j_bndi (fun x4_7 => ?_)
    refine j_istore (lv2 := [(4, .int x4_7), (3, .int x3_5), (0, .ref (ad 11 0)), (1, .int x1), (2, .int x2), (5, .int x5), (6, .int x6)]) 139 dX12_odds_139 (by decide) rfl ?_
    refine j_iinc (v := x5 + 1) (lv2 := [(5, .int (x5 + 1)), (4, .int x4_7), (3, .int x3_5), (0, .ref (ad 11 0)), (1, .int x1), (2, .int x2), (6, .int x6)]) 141 5 dX12_odds_141 rfl rfl (by decide) rfl ?_
    refine j_goto 144 25 dX12_odds_144 (by decide) ?_
    refine j_sub [3, 4, 5, 2, 1, 0] rfl ?_
    exact ih _ x3_5 x4_7 (x5 + 1)
set_option maxRecDepth 100000 in
set_option maxHeartbeats 4000000 in
theorem tX12_odds_L25 {ad : Nat → Nat → Nat} (X : Ctx) (F : Nat) (S : St) (x1 : Int32) (x2 : Int32) (k147 : Int32 → Int32 → Option Int32)  (hk147 : ∀ (γ : Nat → Nat) (x3 : Int32) (x4 : Int32), JJ X ad γ (RQm X ad 2 46 (outpi S)) (fcm (outpi S)) 2 46 cX12_odds 8 RX12 wsX12_odds (some .int) (k147 x3 x4) S 147 [(3, .int x3), (4, .int x4)] []) : ∀ (n : Nat) (γ : Nat → Nat) (x3 : Int32) (x4 : Int32) (x5 : Int32), JJ X ad γ (RQm X ad 2 46 (outpi S)) (fcm (outpi S)) 2 46 cX12_odds 8 RX12 wsX12_odds (some .int) (fX12_odds_L25 F S x1 x2 k147 n x3 x4 x5) S 25 [(0, .ref (ad 11 0)), (1, .int x1), (2, .int x2), (3, .int x3), (4, .int x4), (5, .int x5)] [] := by
  intro n
  induction n with
  | zero => intro _ _ _ _; exact j_none
  | succ n ih =>
    intro γ x3 x4 x5
    rw [show fX12_odds_L25 F S x1 x2 k147 (n + 1) x3 x4 x5 = fX12_odds_b25 F S x1 x2 k147 (fX12_odds_L25 F S x1 x2 k147 n) x3 x4 x5 from rfl]
    unfold fX12_odds_b25
    refine j_iload 25 5 dX12_odds_25 rfl ?_
    refine j_aload_n 27 0 dX12_odds_27 rfl rfl ?_
    refine j_geti 28 6 nX12_odds_X12 rfl (by decide) (prs_mem (by decide) (by decide)) (by decide) (by decide) wX12_odds_f175 (Or.inl rfl) rfl dX12_odds_28 ?_
    refine j_icmp_ge 31 147 dX12_odds_31 (by decide) (fun _ => ?_) (fun _ => ?_)
    · refine j_sub [3, 4] rfl ?_
      exact hk147 _ x3 x4
    · refine j_bipush (v := (-4)) 34 dX12_odds_34 (by decide) ?_
      refine j_istore (lv2 := [(6, .int (-4)), (0, .ref (ad 11 0)), (1, .int x1), (2, .int x2), (3, .int x3), (4, .int x4), (5, .int x5)]) 36 dX12_odds_36 (by decide) rfl ?_
      refine j_iconst (v := 0) 38 dX12_odds_38 (by decide) ?_
      refine j_istore (lv2 := [(7, .int 0), (6, .int (-4)), (0, .ref (ad 11 0)), (1, .int x1), (2, .int x2), (3, .int x3), (4, .int x4), (5, .int x5)]) 39 dX12_odds_39 (by decide) rfl ?_
      refine j_sub [2, 3, 4, 5, 6, 7, 1, 0] rfl ?_
      refine tX12_odds_L41 X F S x1 x2 x3 x4 x5 _ (fun γ x6_4 => ?_) F _ (-4) 0
      refine j_iload_n 112 3 dX12_odds_112 rfl rfl ?_
      refine j_iload 113 6 dX12_odds_113 rfl ?_
      refine j_iconst (v := 1) 115 dX12_odds_115 (by decide) ?_
      refine j_icmp_ne 116 123 dX12_odds_116 (by decide) (fun _ => ?_) (fun _ => ?_)
      · refine j_iconst (v := 0) 123 dX12_odds_123 (by decide) ?_
        refine j_sub [0, 1, 2, 4, 5, 6] rfl ?_
        exact tX12_odds_j124 X _ F S x1 x2 x4 x5 x6_4 0 x3 _ ih
      · refine j_iconst (v := 1) 119 dX12_odds_119 (by decide) ?_
        refine j_goto 120 124 dX12_odds_120 (by decide) ?_
        refine j_sub [0, 1, 2, 4, 5, 6] rfl ?_
        exact tX12_odds_j124 X _ F S x1 x2 x4 x5 x6_4 1 x3 _ ih
set_option maxRecDepth 100000 in
set_option maxHeartbeats 4000000 in
theorem tX12_odds {ad : Nat → Nat → Nat} (X : Ctx) (γ : Nat → Nat) (F : Nat) (S : St) (p1 : Int32) (p2 : Int32) : JJ X ad γ (RQm X ad 2 46 (outpi S)) (fcm (outpi S)) 2 46 cX12_odds 8 RX12 wsX12_odds (some .int) (fX12_odds F S p1 p2) S 0 [(0, .ref (ad 11 0)), (1, .int p1), (2, .int p2)] [] := by
  unfold fX12_odds
  refine j_aload_n 0 0 dX12_odds_0 rfl rfl ?_
  refine j_iload_n 1 1 dX12_odds_1 rfl rfl ?_
  refine j_callV_pi 2 rfl (by decide) (prs_mem (by decide) (by decide))  [.int p1] [] gX12_odds_X12_isPerson rfl eX12_isPerson ⟨Nat.le_of_ble_eq_true rfl, Nat.le_of_ble_eq_true rfl⟩ rfl rfl (Nat.le_of_ble_eq_true rfl) dX12_odds_2 (kX12_isPerson S p1) (fun b_1 γ => ?_)
  refine j_if_eq 5 15 dX12_odds_5 (by decide) (fun _ => ?_) (fun _ => ?_)
  · refine j_iconst (v := (-1)) 15 dX12_odds_15 (by decide) ?_
    exact j_iret 16 rfl dX12_odds_16
  · refine j_iload_n 8 2 dX12_odds_8 rfl rfl ?_
    refine j_callS_pi 9  [.int p2] [] gX12_odds_X12_isKin rfl eX12_isKin ⟨Nat.le_of_ble_eq_true rfl, Nat.le_of_ble_eq_true rfl⟩ rfl rfl (Nat.le_of_ble_eq_true rfl) dX12_odds_9 (kX12_isKin S p2) (fun b_2 γ => ?_)
    refine j_if_ne 12 17 dX12_odds_12 (by decide) (fun _ => ?_) (fun _ => ?_)
    · refine j_iconst (v := 0) 17 dX12_odds_17 (by decide) ?_
      refine j_istore_n (lv2 := [(3, .int 0), (0, .ref (ad 11 0)), (1, .int p1), (2, .int p2)]) 18 dX12_odds_18 rfl (by decide) rfl ?_
      refine j_iconst (v := 0) 19 dX12_odds_19 (by decide) ?_
      refine j_istore (lv2 := [(4, .int 0), (3, .int 0), (0, .ref (ad 11 0)), (1, .int p1), (2, .int p2)]) 20 dX12_odds_20 (by decide) rfl ?_
      refine j_iconst (v := 0) 22 dX12_odds_22 (by decide) ?_
      refine j_istore (lv2 := [(5, .int 0), (4, .int 0), (3, .int 0), (0, .ref (ad 11 0)), (1, .int p1), (2, .int p2)]) 23 dX12_odds_23 (by decide) rfl ?_
      refine j_sub [3, 4, 5, 2, 1, 0] rfl ?_
      refine tX12_odds_L25 X F S p1 p2 _ (fun γ x3_8 x4_9 => ?_) F _ 0 0 0
      refine j_iload_n 147 0 dX12_odds_147 rfl rfl ?_
      refine j_iload 148 1 dX12_odds_148 rfl ?_
      refine j_imul 150 dX12_odds_150 ?_
      exact j_iret 151 rfl dX12_odds_151
    · refine j_iconst (v := (-1)) 15 dX12_odds_15 (by decide) ?_
      exact j_iret 16 rfl dX12_odds_16
set_option maxRecDepth 100000 in
set_option maxHeartbeats 4000000 in
theorem kX12_odds {ad : Nat → Nat → Nat} (F : Nat) (S : St) (p1 : Int32) (p2 : Int32) : ∀ b, fX12_odds F S p1 p2 = some b → ∀ l dC dI cy, CT l dC dI cy ad yX12_odds wsX12_odds 2 46 [.ref (ad 11 0), .int p1, .int p2] S (some (.int b)) S :=
  fun b hb l dC dI cy => ct_of (l := l) (dC := dC) (dI := dI) (cy := cy) (outpi S) (by decide) rfl (Nat.le_of_ble_eq_true rfl) rfl (fun X γ => tX12_odds X γ F S p1 p2) b hb
-- X12_isBlock
theorem nX12_isBlock_X12 : ∀ w ∈ u_ws RX12 TX12 40, w ∈ wsX12_isBlock := by decide +kernel
theorem wX12_isBlock_f193 : Cond.fieldLink RX12 193 "TwoTonguesModel" "blockMany" "I" ∈ wsX12_isBlock := by decide +kernel
set_option maxRecDepth 100000 in
set_option maxHeartbeats 4000000 in
theorem tX12_isBlock {ad : Nat → Nat → Nat} (X : Ctx) (γ : Nat → Nat) (S : St) (p1 : Int32) : JJ X ad γ (RQm X ad 1 25 (outpi S)) (fcm (outpi S)) 1 25 cX12_isBlock 2 RX12 wsX12_isBlock (some .boolean) (fX12_isBlock S p1) S 0 [(0, .ref (ad 11 0)), (1, .int p1)] [] := by
  unfold fX12_isBlock
  refine j_iload_n 0 1 dX12_isBlock_0 rfl rfl ?_
  refine j_i2l 1 dX12_isBlock_1 ?_
  refine j_lconst (v := 0) 2 dX12_isBlock_2 (by decide) ?_
  refine j_aload_n 3 0 dX12_isBlock_3 rfl rfl ?_
  refine j_geti 4 13 nX12_isBlock_X12 rfl (by decide) (prs_mem (by decide) (by decide)) (by decide) (by decide) wX12_isBlock_f193 (Or.inl rfl) rfl dX12_isBlock_4 ?_
  refine j_iconst (v := 1) 7 dX12_isBlock_7 (by decide) ?_
  refine j_isub 8 dX12_isBlock_8 ?_
  refine j_i2l 9 dX12_isBlock_9 ?_
  refine j_callS_pi 10  [.long p1.toInt64, .long 0, .long ((gI S 11 0 13) - 1).toInt64] [] gX12_isBlock_X12_in rfl eX12_in ⟨Nat.le_of_ble_eq_true rfl, Nat.le_of_ble_eq_true rfl⟩ rfl rfl (Nat.le_of_ble_eq_true rfl) dX12_isBlock_10 (kX12_in S p1.toInt64 0 ((gI S 11 0 13) - 1).toInt64) (fun b_1 γ => ?_)
  refine j_gd (fun hz => ?_)
  exact j_zret 13 (isB_nar hz) rfl dX12_isBlock_13
set_option maxRecDepth 100000 in
set_option maxHeartbeats 4000000 in
theorem kX12_isBlock {ad : Nat → Nat → Nat} (S : St) (p1 : Int32) : ∀ b, fX12_isBlock S p1 = some b → ∀ l dC dI cy, CT l dC dI cy ad yX12_isBlock wsX12_isBlock 1 25 [.ref (ad 11 0), .int p1] S (some (.int b)) S :=
  fun b hb l dC dI cy => ct_of (l := l) (dC := dC) (dI := dI) (cy := cy) (outpi S) (by decide) rfl (Nat.le_of_ble_eq_true rfl) rfl (fun X γ => tX12_isBlock X γ S p1) b hb
-- X12_block
theorem nX12_block_X12 : ∀ w ∈ u_ws RX12 TX12 40, w ∈ wsX12_block := by decide +kernel
theorem wX12_block_c196 : Cond.constantLong RX12 196 (1000000) ∈ wsX12_block := by decide +kernel
theorem wX12_block_f193 : Cond.fieldLink RX12 193 "TwoTonguesModel" "blockMany" "I" ∈ wsX12_block := by decide +kernel
theorem wX12_block_f43 : Cond.fieldLink RX12 43 "TwoTonguesModel" "worth" "[I" ∈ wsX12_block := by decide +kernel
set_option maxRecDepth 100000 in
set_option maxHeartbeats 4000000 in
theorem tX12_block {ad : Nat → Nat → Nat} (X : Ctx) (γ : Nat → Nat) (S : St) (p1 : Int32) : JJ X ad γ (RQm X ad 1 25 outei) (fcm outei) 1 25 cX12_block 2 RX12 wsX12_block (some .int) (fX12_block S p1) S 0 [(0, .ref (ad 11 0)), (1, .int p1)] [] := by
  unfold fX12_block
  refine j_iload_n 0 1 dX12_block_0 rfl rfl ?_
  refine j_i2l 1 dX12_block_1 ?_
  refine j_lconst (v := 1) 2 dX12_block_2 (by decide) ?_
  refine j_ldc2 (v := 1000000) 3 dX12_block_3 wX12_block_c196 ?_
  refine j_callS_pi 6  [.long p1.toInt64, .long 1, .long 1000000] [] gX12_block_X12_in rfl eX12_in ⟨Nat.le_of_ble_eq_true rfl, Nat.le_of_ble_eq_true rfl⟩ rfl rfl (Nat.le_of_ble_eq_true rfl) dX12_block_6 (kX12_in S p1.toInt64 1 1000000) (fun b_1 γ => ?_)
  refine j_if_ne 9 14 dX12_block_9 (by decide) (fun _ => ?_) (fun _ => ?_)
  · refine j_aload_n 14 0 dX12_block_14 rfl rfl ?_
    refine j_geti 15 13 nX12_block_X12 rfl (by decide) (prs_mem (by decide) (by decide)) (by decide) (by decide) wX12_block_f193 (Or.inl rfl) rfl dX12_block_15 ?_
    refine j_bipush (v := 12) 18 dX12_block_18 (by decide) ?_
    refine j_icmp_ne 20 26 dX12_block_20 (by decide) (fun _ => ?_) (fun _ => ?_)
    · refine j_aload_n 26 0 dX12_block_26 rfl rfl ?_
      refine j_getr (c2 := 64) (n2 := 0) 27 14 nX12_block_X12 rfl (by decide) (prs_mem (by decide) (by decide)) (by decide) (by decide) wX12_block_f43 (Or.inl rfl) rfl rfl rfl dX12_block_27 ?_
      refine j_aload_n 30 0 dX12_block_30 rfl rfl ?_
      refine j_geti 31 13 nX12_block_X12 rfl (by decide) (prs_mem (by decide) (by decide)) (by decide) (by decide) wX12_block_f193 (Or.inl rfl) rfl dX12_block_31 ?_
      refine j_iload_n 34 1 dX12_block_34 rfl rfl ?_
      refine j_iast (c := 64) (n := 0) (L := 12) 35 (prs_mem (by decide) (by decide)) (by decide) rfl rfl rfl dX12_block_35 (j_bs (fun S_2 => ?_))
      refine j_aload_n 36 0 dX12_block_36 rfl rfl ?_
      refine j_dup 37 dX12_block_37 rfl ?_
      refine j_geti 38 13 nX12_block_X12 rfl (by decide) (prs_mem (by decide) (by decide)) (by decide) (by decide) wX12_block_f193 (Or.inl rfl) rfl dX12_block_38 ?_
      refine j_iconst (v := 1) 41 dX12_block_41 (by decide) ?_
      refine j_iadd 42 dX12_block_42 ?_
      refine j_puti 43 13 nX12_block_X12 rfl (by decide) (prs_mem (by decide) (by decide)) (by decide) (by decide) wX12_block_f193 (Or.inl rfl) tyX12 tyX12_ok nmX12 rfl (by decide) rfl dX12_block_43 (j_bs (fun S_3 => ?_))
      refine j_aload_n 46 0 dX12_block_46 rfl rfl ?_
      refine j_geti 47 13 nX12_block_X12 rfl (by decide) (prs_mem (by decide) (by decide)) (by decide) (by decide) wX12_block_f193 (Or.inl rfl) rfl dX12_block_47 ?_
      refine j_iconst (v := 1) 50 dX12_block_50 (by decide) ?_
      refine j_isub 51 dX12_block_51 ?_
      exact j_iret 52 rfl dX12_block_52
    · refine j_bipush (v := (-3)) 23 dX12_block_23 (by decide) ?_
      exact j_iret 25 rfl dX12_block_25
  · refine j_iconst (v := (-1)) 12 dX12_block_12 (by decide) ?_
    exact j_iret 13 rfl dX12_block_13
set_option maxRecDepth 100000 in
set_option maxHeartbeats 4000000 in
theorem kX12_block {ad : Nat → Nat → Nat} (S : St) (p1 : Int32) : ∀ b, fX12_block S p1 = some b → ∀ l dC dI cy, CT l dC dI cy ad yX12_block wsX12_block 1 25 [.ref (ad 11 0), .int p1] S (some (.int b.1)) b.2 :=
  fun b hb l dC dI cy => ct_of (l := l) (dC := dC) (dI := dI) (cy := cy) outei (by decide) rfl (Nat.le_of_ble_eq_true rfl) rfl (fun X γ => tX12_block X γ S p1) b hb
-- X12_hold
theorem nX12_hold_X12 : ∀ w ∈ u_ws RX12 TX12 40, w ∈ wsX12_hold := by decide +kernel
theorem wX12_hold_f198 : Cond.fieldLink RX12 198 "TwoTonguesModel" "holdMany" "I" ∈ wsX12_hold := by decide +kernel
theorem wX12_hold_f46 : Cond.fieldLink RX12 46 "TwoTonguesModel" "holds" "[I" ∈ wsX12_hold := by decide +kernel
set_option maxRecDepth 100000 in
set_option maxHeartbeats 4000000 in
theorem tX12_hold {ad : Nat → Nat → Nat} (X : Ctx) (γ : Nat → Nat) (S : St) (p1 : Int32) (p2 : Int32) (p3 : Int32) (p4 : Int32) : JJ X ad γ (RQm X ad 0 0 outei) (fcm outei) 0 0 cX12_hold 6 RX12 wsX12_hold (some .int) (fX12_hold S p1 p2 p3 p4) S 0 [(0, .ref (ad 11 0)), (1, .int p1), (2, .int p2), (3, .int p3), (4, .int p4)] [] := by
  unfold fX12_hold
  refine j_aload_n 0 0 dX12_hold_0 rfl rfl ?_
  refine j_geti 1 15 nX12_hold_X12 rfl (by decide) (prs_mem (by decide) (by decide)) (by decide) (by decide) wX12_hold_f198 (Or.inl rfl) rfl dX12_hold_1 ?_
  refine j_bipush (v := 60) 4 dX12_hold_4 (by decide) ?_
  refine j_icmp_ne 6 12 dX12_hold_6 (by decide) (fun _ => ?_) (fun _ => ?_)
  · refine j_iconst (v := 4) 12 dX12_hold_12 (by decide) ?_
    refine j_aload_n 13 0 dX12_hold_13 rfl rfl ?_
    refine j_geti 14 15 nX12_hold_X12 rfl (by decide) (prs_mem (by decide) (by decide)) (by decide) (by decide) wX12_hold_f198 (Or.inl rfl) rfl dX12_hold_14 ?_
    refine j_imul 17 dX12_hold_17 ?_
    refine j_bndi (fun x5_1 => ?_)
    refine j_istore (lv2 := [(5, .int x5_1), (0, .ref (ad 11 0)), (1, .int p1), (2, .int p2), (3, .int p3), (4, .int p4)]) 18 dX12_hold_18 (by decide) rfl ?_
    refine j_aload_n 20 1 dX12_hold_20 rfl rfl ?_
    refine j_getr (c2 := 65) (n2 := 0) 21 16 nX12_hold_X12 rfl (by decide) (prs_mem (by decide) (by decide)) (by decide) (by decide) wX12_hold_f46 (Or.inl rfl) rfl rfl rfl dX12_hold_21 ?_
    refine j_iload 24 0 dX12_hold_24 rfl ?_
    refine j_iload_n 26 2 dX12_hold_26 rfl rfl ?_
    refine j_iast (c := 65) (n := 0) (L := 240) 27 (prs_mem (by decide) (by decide)) (by decide) rfl rfl rfl dX12_hold_27 (j_bs (fun S_2 => ?_))
    refine j_aload_n 28 1 dX12_hold_28 rfl rfl ?_
    refine j_getr (c2 := 65) (n2 := 0) 29 16 nX12_hold_X12 rfl (by decide) (prs_mem (by decide) (by decide)) (by decide) (by decide) wX12_hold_f46 (Or.inl rfl) rfl rfl rfl dX12_hold_29 ?_
    refine j_iload 32 0 dX12_hold_32 rfl ?_
    refine j_iconst (v := 1) 34 dX12_hold_34 (by decide) ?_
    refine j_iadd 35 dX12_hold_35 ?_
    refine j_iload_n 36 3 dX12_hold_36 rfl rfl ?_
    refine j_iast (c := 65) (n := 0) (L := 240) 37 (prs_mem (by decide) (by decide)) (by decide) rfl rfl rfl dX12_hold_37 (j_bs (fun S_3 => ?_))
    refine j_aload_n 38 1 dX12_hold_38 rfl rfl ?_
    refine j_getr (c2 := 65) (n2 := 0) 39 16 nX12_hold_X12 rfl (by decide) (prs_mem (by decide) (by decide)) (by decide) (by decide) wX12_hold_f46 (Or.inl rfl) rfl rfl rfl dX12_hold_39 ?_
    refine j_iload 42 0 dX12_hold_42 rfl ?_
    refine j_iconst (v := 2) 44 dX12_hold_44 (by decide) ?_
    refine j_iadd 45 dX12_hold_45 ?_
    refine j_iload_n 46 4 dX12_hold_46 rfl rfl ?_
    refine j_iast (c := 65) (n := 0) (L := 240) 47 (prs_mem (by decide) (by decide)) (by decide) rfl rfl rfl dX12_hold_47 (j_bs (fun S_4 => ?_))
    refine j_aload_n 48 1 dX12_hold_48 rfl rfl ?_
    refine j_getr (c2 := 65) (n2 := 0) 49 16 nX12_hold_X12 rfl (by decide) (prs_mem (by decide) (by decide)) (by decide) (by decide) wX12_hold_f46 (Or.inl rfl) rfl rfl rfl dX12_hold_49 ?_
    refine j_iload 52 0 dX12_hold_52 rfl ?_
    refine j_iconst (v := 3) 54 dX12_hold_54 (by decide) ?_
    refine j_iadd 55 dX12_hold_55 ?_
    refine j_iload 56 5 dX12_hold_56 rfl ?_
    refine j_iast (c := 65) (n := 0) (L := 240) 58 (prs_mem (by decide) (by decide)) (by decide) rfl rfl rfl dX12_hold_58 (j_bs (fun S_5 => ?_))
    refine j_aload_n 59 1 dX12_hold_59 rfl rfl ?_
    refine j_dup 60 dX12_hold_60 rfl ?_
    refine j_geti 61 15 nX12_hold_X12 rfl (by decide) (prs_mem (by decide) (by decide)) (by decide) (by decide) wX12_hold_f198 (Or.inl rfl) rfl dX12_hold_61 ?_
    refine j_iconst (v := 1) 64 dX12_hold_64 (by decide) ?_
    refine j_iadd 65 dX12_hold_65 ?_
    refine j_puti 66 15 nX12_hold_X12 rfl (by decide) (prs_mem (by decide) (by decide)) (by decide) (by decide) wX12_hold_f198 (Or.inl rfl) tyX12 tyX12_ok nmX12 rfl (by decide) rfl dX12_hold_66 (j_bs (fun S_6 => ?_))
    refine j_aload_n 69 1 dX12_hold_69 rfl rfl ?_
    refine j_geti 70 15 nX12_hold_X12 rfl (by decide) (prs_mem (by decide) (by decide)) (by decide) (by decide) wX12_hold_f198 (Or.inl rfl) rfl dX12_hold_70 ?_
    exact j_iret 73 rfl dX12_hold_73
  · refine j_bipush (v := (-3)) 9 dX12_hold_9 (by decide) ?_
    exact j_iret 11 rfl dX12_hold_11
set_option maxRecDepth 100000 in
set_option maxHeartbeats 4000000 in
theorem kX12_hold {ad : Nat → Nat → Nat} (S : St) (p1 : Int32) (p2 : Int32) (p3 : Int32) (p4 : Int32) : ∀ b, fX12_hold S p1 p2 p3 p4 = some b → ∀ l dC dI cy, CT l dC dI cy ad yX12_hold wsX12_hold 0 0 [.ref (ad 11 0), .int p1, .int p2, .int p3, .int p4] S (some (.int b.1)) b.2 :=
  fun b hb l dC dI cy => ct_of (l := l) (dC := dC) (dI := dI) (cy := cy) outei (by decide) rfl (Nat.le_of_ble_eq_true rfl) rfl (fun X γ => tX12_hold X γ S p1 p2 p3 p4) b hb
-- X12_paper
theorem wX12_paper_c204 : Cond.constantLong RX12 204 (-1) ∈ wsX12_paper := by decide +kernel
theorem wX12_paper_c178 : Cond.constantLong RX12 178 (9) ∈ wsX12_paper := by decide +kernel
set_option maxRecDepth 100000 in
set_option maxHeartbeats 4000000 in
theorem tX12_paper {ad : Nat → Nat → Nat} (X : Ctx) (γ : Nat → Nat) (S : St) (p1 : Int32) (p2 : Int32) (p3 : Int32) : JJ X ad γ (RQm X ad 2 46 outei) (fcm outei) 2 46 cX12_paper 4 RX12 wsX12_paper (some .int) (fX12_paper S p1 p2 p3) S 0 [(0, .ref (ad 11 0)), (1, .int p1), (2, .int p2), (3, .int p3)] [] := by
  unfold fX12_paper
  refine j_aload_n 0 0 dX12_paper_0 rfl rfl ?_
  refine j_iload_n 1 1 dX12_paper_1 rfl rfl ?_
  refine j_callV_pi 2 rfl (by decide) (prs_mem (by decide) (by decide))  [.int p1] [] gX12_paper_X12_isBlock rfl eX12_isBlock ⟨Nat.le_of_ble_eq_true rfl, Nat.le_of_ble_eq_true rfl⟩ rfl rfl (Nat.le_of_ble_eq_true rfl) dX12_paper_2 (kX12_isBlock S p1) (fun b_1 γ => ?_)
  refine j_if_eq 5 40 dX12_paper_5 (by decide) (fun _ => ?_) (fun _ => ?_)
  · refine j_iconst (v := (-1)) 40 dX12_paper_40 (by decide) ?_
    exact j_iret 41 rfl dX12_paper_41
  · refine j_iload_n 8 2 dX12_paper_8 rfl rfl ?_
    refine j_i2l 9 dX12_paper_9 ?_
    refine j_ldc2 (v := (-1)) 10 dX12_paper_10 wX12_paper_c204 ?_
    refine j_ldc2 (v := 9) 13 dX12_paper_13 wX12_paper_c178 ?_
    refine j_callS_pi 16  [.long p2.toInt64, .long (-1), .long 9] [] gX12_paper_X12_in rfl eX12_in ⟨Nat.le_of_ble_eq_true rfl, Nat.le_of_ble_eq_true rfl⟩ rfl rfl (Nat.le_of_ble_eq_true rfl) dX12_paper_16 (kX12_in S p2.toInt64 (-1) 9) (fun b_2 γ => ?_)
    refine j_if_eq 19 40 dX12_paper_19 (by decide) (fun _ => ?_) (fun _ => ?_)
    · refine j_iconst (v := (-1)) 40 dX12_paper_40 (by decide) ?_
      exact j_iret 41 rfl dX12_paper_41
    · refine j_iload_n 22 3 dX12_paper_22 rfl rfl ?_
      refine j_callS_pi 23  [.int p3] [] gX12_paper_X12_isYear rfl eX12_isYear ⟨Nat.le_of_ble_eq_true rfl, Nat.le_of_ble_eq_true rfl⟩ rfl rfl (Nat.le_of_ble_eq_true rfl) dX12_paper_23 (kX12_isYear S p3) (fun b_3 γ => ?_)
      refine j_if_eq 26 40 dX12_paper_26 (by decide) (fun _ => ?_) (fun _ => ?_)
      · refine j_iconst (v := (-1)) 40 dX12_paper_40 (by decide) ?_
        exact j_iret 41 rfl dX12_paper_41
      · refine j_aload_n 29 0 dX12_paper_29 rfl rfl ?_
        refine j_iload_n 30 1 dX12_paper_30 rfl rfl ?_
        refine j_iconst (v := 0) 31 dX12_paper_31 (by decide) ?_
        refine j_iload_n 32 2 dX12_paper_32 rfl rfl ?_
        refine j_iload_n 33 3 dX12_paper_33 rfl rfl ?_
        refine j_callV_ei 34 rfl (by decide) (prs_mem (by decide) (by decide))  [.int p1, .int 0, .int p2, .int p3] [] gX12_paper_X12_hold rfl eX12_hold ⟨Nat.le_of_ble_eq_true rfl, Nat.le_of_ble_eq_true rfl⟩ rfl rfl (Nat.le_of_ble_eq_true rfl) dX12_paper_34 (kX12_hold S p1 0 p2 p3) (fun b_4 γ => ?_)
        refine j_goto 37 41 dX12_paper_37 (by decide) ?_
        exact j_iret 41 rfl dX12_paper_41
set_option maxRecDepth 100000 in
set_option maxHeartbeats 4000000 in
theorem kX12_paper {ad : Nat → Nat → Nat} (S : St) (p1 : Int32) (p2 : Int32) (p3 : Int32) : ∀ b, fX12_paper S p1 p2 p3 = some b → ∀ l dC dI cy, CT l dC dI cy ad yX12_paper wsX12_paper 2 46 [.ref (ad 11 0), .int p1, .int p2, .int p3] S (some (.int b.1)) b.2 :=
  fun b hb l dC dI cy => ct_of (l := l) (dC := dC) (dI := dI) (cy := cy) outei (by decide) rfl (Nat.le_of_ble_eq_true rfl) rfl (fun X γ => tX12_paper X γ S p1 p2 p3) b hb
-- X12_use
theorem wX12_use_c209 : Cond.constantLong RX12 209 (1023) ∈ wsX12_use := by decide +kernel
set_option maxRecDepth 100000 in
set_option maxHeartbeats 4000000 in
theorem tX12_use {ad : Nat → Nat → Nat} (X : Ctx) (γ : Nat → Nat) (S : St) (p1 : Int32) (p2 : Int32) (p3 : Int32) : JJ X ad γ (RQm X ad 2 46 outei) (fcm outei) 2 46 cX12_use 4 RX12 wsX12_use (some .int) (fX12_use S p1 p2 p3) S 0 [(0, .ref (ad 11 0)), (1, .int p1), (2, .int p2), (3, .int p3)] [] := by
  unfold fX12_use
  refine j_aload_n 0 0 dX12_use_0 rfl rfl ?_
  refine j_iload_n 1 1 dX12_use_1 rfl rfl ?_
  refine j_callV_pi 2 rfl (by decide) (prs_mem (by decide) (by decide))  [.int p1] [] gX12_use_X12_isBlock rfl eX12_isBlock ⟨Nat.le_of_ble_eq_true rfl, Nat.le_of_ble_eq_true rfl⟩ rfl rfl (Nat.le_of_ble_eq_true rfl) dX12_use_2 (kX12_isBlock S p1) (fun b_1 γ => ?_)
  refine j_if_eq 5 38 dX12_use_5 (by decide) (fun _ => ?_) (fun _ => ?_)
  · refine j_iconst (v := (-1)) 38 dX12_use_38 (by decide) ?_
    exact j_iret 39 rfl dX12_use_39
  · refine j_iload_n 8 2 dX12_use_8 rfl rfl ?_
    refine j_i2l 9 dX12_use_9 ?_
    refine j_lconst (v := 0) 10 dX12_use_10 (by decide) ?_
    refine j_ldc2 (v := 1023) 11 dX12_use_11 wX12_use_c209 ?_
    refine j_callS_pi 14  [.long p2.toInt64, .long 0, .long 1023] [] gX12_use_X12_in rfl eX12_in ⟨Nat.le_of_ble_eq_true rfl, Nat.le_of_ble_eq_true rfl⟩ rfl rfl (Nat.le_of_ble_eq_true rfl) dX12_use_14 (kX12_in S p2.toInt64 0 1023) (fun b_2 γ => ?_)
    refine j_if_eq 17 38 dX12_use_17 (by decide) (fun _ => ?_) (fun _ => ?_)
    · refine j_iconst (v := (-1)) 38 dX12_use_38 (by decide) ?_
      exact j_iret 39 rfl dX12_use_39
    · refine j_iload_n 20 3 dX12_use_20 rfl rfl ?_
      refine j_callS_pi 21  [.int p3] [] gX12_use_X12_isYear rfl eX12_isYear ⟨Nat.le_of_ble_eq_true rfl, Nat.le_of_ble_eq_true rfl⟩ rfl rfl (Nat.le_of_ble_eq_true rfl) dX12_use_21 (kX12_isYear S p3) (fun b_3 γ => ?_)
      refine j_if_eq 24 38 dX12_use_24 (by decide) (fun _ => ?_) (fun _ => ?_)
      · refine j_iconst (v := (-1)) 38 dX12_use_38 (by decide) ?_
        exact j_iret 39 rfl dX12_use_39
      · refine j_aload_n 27 0 dX12_use_27 rfl rfl ?_
        refine j_iload_n 28 1 dX12_use_28 rfl rfl ?_
        refine j_iconst (v := 1) 29 dX12_use_29 (by decide) ?_
        refine j_iload_n 30 2 dX12_use_30 rfl rfl ?_
        refine j_iload_n 31 3 dX12_use_31 rfl rfl ?_
        refine j_callV_ei 32 rfl (by decide) (prs_mem (by decide) (by decide))  [.int p1, .int 1, .int p2, .int p3] [] gX12_use_X12_hold rfl eX12_hold ⟨Nat.le_of_ble_eq_true rfl, Nat.le_of_ble_eq_true rfl⟩ rfl rfl (Nat.le_of_ble_eq_true rfl) dX12_use_32 (kX12_hold S p1 1 p2 p3) (fun b_4 γ => ?_)
        refine j_goto 35 39 dX12_use_35 (by decide) ?_
        exact j_iret 39 rfl dX12_use_39
set_option maxRecDepth 100000 in
set_option maxHeartbeats 4000000 in
theorem kX12_use {ad : Nat → Nat → Nat} (S : St) (p1 : Int32) (p2 : Int32) (p3 : Int32) : ∀ b, fX12_use S p1 p2 p3 = some b → ∀ l dC dI cy, CT l dC dI cy ad yX12_use wsX12_use 2 46 [.ref (ad 11 0), .int p1, .int p2, .int p3] S (some (.int b.1)) b.2 :=
  fun b hb l dC dI cy => ct_of (l := l) (dC := dC) (dI := dI) (cy := cy) outei (by decide) rfl (Nat.le_of_ble_eq_true rfl) rfl (fun X γ => tX12_use X γ S p1 p2 p3) b hb
-- X12_heldBy
theorem nX12_heldBy_X12 : ∀ w ∈ u_ws RX12 TX12 40, w ∈ wsX12_heldBy := by decide +kernel
theorem wX12_heldBy_f198 : Cond.fieldLink RX12 198 "TwoTonguesModel" "holdMany" "I" ∈ wsX12_heldBy := by decide +kernel
theorem wX12_heldBy_f46 : Cond.fieldLink RX12 46 "TwoTonguesModel" "holds" "[I" ∈ wsX12_heldBy := by decide +kernel
set_option maxRecDepth 100000 in
set_option maxHeartbeats 4000000 in
theorem tX12_heldBy_L17 {ad : Nat → Nat → Nat} (X : Ctx) (F : Nat) (S : St) (x1 : Int32) (x2 : Int32) (x3 : Int32)   : ∀ (n : Nat) (γ : Nat → Nat) (x4 : Int32) (x5 : Int32) (x6 : Int32), JJ X ad γ (RQm X ad 0 0 (outpi S)) (fcm (outpi S)) 0 0 cX12_heldBy 7 RX12 wsX12_heldBy (some .int) (fX12_heldBy_L17 F S x1 x2 x3 n x4 x5 x6) S 17 [(0, .ref (ad 11 0)), (1, .int x1), (2, .int x2), (3, .int x3), (4, .int x4), (5, .int x5), (6, .int x6)] [] := by
  intro n
  induction n with
  | zero => intro _ _ _ _; exact j_none
  | succ n ih =>
    intro γ x4 x5 x6
    rw [show fX12_heldBy_L17 F S x1 x2 x3 (n + 1) x4 x5 x6 = fX12_heldBy_b17 F S x1 x2 x3 (fX12_heldBy_L17 F S x1 x2 x3 n) x4 x5 x6 from rfl]
    unfold fX12_heldBy_b17
    refine j_iload 17 6 dX12_heldBy_17 rfl ?_
    refine j_iconst (v := 4) 19 dX12_heldBy_19 (by decide) ?_
    refine j_aload_n 20 0 dX12_heldBy_20 rfl rfl ?_
    refine j_geti 21 15 nX12_heldBy_X12 rfl (by decide) (prs_mem (by decide) (by decide)) (by decide) (by decide) wX12_heldBy_f198 (Or.inl rfl) rfl dX12_heldBy_21 ?_
    refine j_imul 24 dX12_heldBy_24 ?_
    refine j_icmp_ge 25 107 dX12_heldBy_25 (by decide) (fun _ => ?_) (fun _ => ?_)
    · refine j_iload 107 5 dX12_heldBy_107 rfl ?_
      exact j_iret 109 rfl dX12_heldBy_109
    · refine j_aload_n 28 0 dX12_heldBy_28 rfl rfl ?_
      refine j_getr (c2 := 65) (n2 := 0) 29 16 nX12_heldBy_X12 rfl (by decide) (prs_mem (by decide) (by decide)) (by decide) (by decide) wX12_heldBy_f46 (Or.inl rfl) rfl rfl rfl dX12_heldBy_29 ?_
      refine j_iload 32 6 dX12_heldBy_32 rfl ?_
      refine j_iald (c := 65) (n := 0) (L := 240) 34 (prs_mem (by decide) (by decide)) (by decide) rfl rfl rfl dX12_heldBy_34 ?_
      refine j_iload_n 35 1 dX12_heldBy_35 rfl rfl ?_
      refine j_icmp_ne 36 101 dX12_heldBy_36 (by decide) (fun _ => ?_) (fun _ => ?_)
      · refine j_iinc (v := x6 + 4) (lv2 := [(6, .int (x6 + 4)), (0, .ref (ad 11 0)), (1, .int x1), (2, .int x2), (3, .int x3), (4, .int x4), (5, .int x5)]) 101 6 dX12_heldBy_101 rfl rfl (by decide) rfl ?_
        refine j_goto 104 17 dX12_heldBy_104 (by decide) ?_
        refine j_sub [1, 2, 3, 4, 5, 6, 0] rfl ?_
        exact ih _ x4 x5 (x6 + 4)
      · refine j_aload_n 39 0 dX12_heldBy_39 rfl rfl ?_
        refine j_getr (c2 := 65) (n2 := 0) 40 16 nX12_heldBy_X12 rfl (by decide) (prs_mem (by decide) (by decide)) (by decide) (by decide) wX12_heldBy_f46 (Or.inl rfl) rfl rfl rfl dX12_heldBy_40 ?_
        refine j_iload 43 6 dX12_heldBy_43 rfl ?_
        refine j_iconst (v := 1) 45 dX12_heldBy_45 (by decide) ?_
        refine j_iadd 46 dX12_heldBy_46 ?_
        refine j_iald (c := 65) (n := 0) (L := 240) 47 (prs_mem (by decide) (by decide)) (by decide) rfl rfl rfl dX12_heldBy_47 ?_
        refine j_iload_n 48 3 dX12_heldBy_48 rfl rfl ?_
        refine j_icmp_ne 49 101 dX12_heldBy_49 (by decide) (fun _ => ?_) (fun _ => ?_)
        · refine j_iinc (v := x6 + 4) (lv2 := [(6, .int (x6 + 4)), (0, .ref (ad 11 0)), (1, .int x1), (2, .int x2), (3, .int x3), (4, .int x4), (5, .int x5)]) 101 6 dX12_heldBy_101 rfl rfl (by decide) rfl ?_
          refine j_goto 104 17 dX12_heldBy_104 (by decide) ?_
          refine j_sub [1, 2, 3, 4, 5, 6, 0] rfl ?_
          exact ih _ x4 x5 (x6 + 4)
        · refine j_aload_n 52 0 dX12_heldBy_52 rfl rfl ?_
          refine j_getr (c2 := 65) (n2 := 0) 53 16 nX12_heldBy_X12 rfl (by decide) (prs_mem (by decide) (by decide)) (by decide) (by decide) wX12_heldBy_f46 (Or.inl rfl) rfl rfl rfl dX12_heldBy_53 ?_
          refine j_iload 56 6 dX12_heldBy_56 rfl ?_
          refine j_iconst (v := 3) 58 dX12_heldBy_58 (by decide) ?_
          refine j_iadd 59 dX12_heldBy_59 ?_
          refine j_iald (c := 65) (n := 0) (L := 240) 60 (prs_mem (by decide) (by decide)) (by decide) rfl rfl rfl dX12_heldBy_60 ?_
          refine j_iload_n 61 2 dX12_heldBy_61 rfl rfl ?_
          refine j_icmp_gt 62 101 dX12_heldBy_62 (by decide) (fun _ => ?_) (fun _ => ?_)
          · refine j_iinc (v := x6 + 4) (lv2 := [(6, .int (x6 + 4)), (0, .ref (ad 11 0)), (1, .int x1), (2, .int x2), (3, .int x3), (4, .int x4), (5, .int x5)]) 101 6 dX12_heldBy_101 rfl rfl (by decide) rfl ?_
            refine j_goto 104 17 dX12_heldBy_104 (by decide) ?_
            refine j_sub [1, 2, 3, 4, 5, 6, 0] rfl ?_
            exact ih _ x4 x5 (x6 + 4)
          · refine j_aload_n 65 0 dX12_heldBy_65 rfl rfl ?_
            refine j_getr (c2 := 65) (n2 := 0) 66 16 nX12_heldBy_X12 rfl (by decide) (prs_mem (by decide) (by decide)) (by decide) (by decide) wX12_heldBy_f46 (Or.inl rfl) rfl rfl rfl dX12_heldBy_66 ?_
            refine j_iload 69 6 dX12_heldBy_69 rfl ?_
            refine j_iconst (v := 3) 71 dX12_heldBy_71 (by decide) ?_
            refine j_iadd 72 dX12_heldBy_72 ?_
            refine j_iald (c := 65) (n := 0) (L := 240) 73 (prs_mem (by decide) (by decide)) (by decide) rfl rfl rfl dX12_heldBy_73 ?_
            refine j_iload 74 4 dX12_heldBy_74 rfl ?_
            refine j_icmp_lt 76 101 dX12_heldBy_76 (by decide) (fun _ => ?_) (fun _ => ?_)
            · refine j_iinc (v := x6 + 4) (lv2 := [(6, .int (x6 + 4)), (0, .ref (ad 11 0)), (1, .int x1), (2, .int x2), (3, .int x3), (4, .int x4), (5, .int x5)]) 101 6 dX12_heldBy_101 rfl rfl (by decide) rfl ?_
              refine j_goto 104 17 dX12_heldBy_104 (by decide) ?_
              refine j_sub [1, 2, 3, 4, 5, 6, 0] rfl ?_
              exact ih _ x4 x5 (x6 + 4)
            · refine j_aload_n 79 0 dX12_heldBy_79 rfl rfl ?_
              refine j_getr (c2 := 65) (n2 := 0) 80 16 nX12_heldBy_X12 rfl (by decide) (prs_mem (by decide) (by decide)) (by decide) (by decide) wX12_heldBy_f46 (Or.inl rfl) rfl rfl rfl dX12_heldBy_80 ?_
              refine j_iload 83 6 dX12_heldBy_83 rfl ?_
              refine j_iconst (v := 3) 85 dX12_heldBy_85 (by decide) ?_
              refine j_iadd 86 dX12_heldBy_86 ?_
              refine j_iald (c := 65) (n := 0) (L := 240) 87 (prs_mem (by decide) (by decide)) (by decide) rfl rfl rfl dX12_heldBy_87 ?_
              refine j_bndi (fun x4_1 => ?_)
              refine j_istore (lv2 := [(4, .int x4_1), (0, .ref (ad 11 0)), (1, .int x1), (2, .int x2), (3, .int x3), (5, .int x5), (6, .int x6)]) 88 dX12_heldBy_88 (by decide) rfl ?_
              refine j_aload_n 90 1 dX12_heldBy_90 rfl rfl ?_
              refine j_getr (c2 := 65) (n2 := 0) 91 16 nX12_heldBy_X12 rfl (by decide) (prs_mem (by decide) (by decide)) (by decide) (by decide) wX12_heldBy_f46 (Or.inl rfl) rfl rfl rfl dX12_heldBy_91 ?_
              refine j_iload 94 6 dX12_heldBy_94 rfl ?_
              refine j_iconst (v := 2) 96 dX12_heldBy_96 (by decide) ?_
              refine j_iadd 97 dX12_heldBy_97 ?_
              refine j_iald (c := 65) (n := 0) (L := 240) 98 (prs_mem (by decide) (by decide)) (by decide) rfl rfl rfl dX12_heldBy_98 ?_
              refine j_bndi (fun x5_2 => ?_)
              refine j_istore (lv2 := [(5, .int x5_2), (4, .int x4_1), (0, .ref (ad 11 0)), (1, .int x1), (2, .int x2), (3, .int x3), (6, .int x6)]) 99 dX12_heldBy_99 (by decide) rfl ?_
              refine j_iinc (v := x6 + 4) (lv2 := [(6, .int (x6 + 4)), (5, .int x5_2), (4, .int x4_1), (0, .ref (ad 11 0)), (1, .int x1), (2, .int x2), (3, .int x3)]) 101 6 dX12_heldBy_101 rfl rfl (by decide) rfl ?_
              refine j_goto 104 17 dX12_heldBy_104 (by decide) ?_
              refine j_sub [3, 4, 5, 6, 2, 1, 0] rfl ?_
              exact ih _ x4_1 x5_2 (x6 + 4)
set_option maxRecDepth 100000 in
set_option maxHeartbeats 4000000 in
theorem tX12_heldBy_j12 {ad : Nat → Nat → Nat} (X : Ctx) (γ : Nat → Nat) (F : Nat) (S : St) (x1 : Int32) (x2 : Int32) (x3 : Int32) (x4 : Int32) (s0 : Int32)   : JJ X ad γ (RQm X ad 0 0 (outpi S)) (fcm (outpi S)) 0 0 cX12_heldBy 7 RX12 wsX12_heldBy (some .int) (fX12_heldBy_j12 F S x1 x2 x3 x4 s0) S 12 [(0, .ref (ad 11 0)), (1, .int x1), (2, .int x2), (3, .int x3), (4, .int x4)] [.int s0] := by
  unfold fX12_heldBy_j12
  refine j_istore (lv2 := [(5, .int s0), (0, .ref (ad 11 0)), (1, .int x1), (2, .int x2), (3, .int x3), (4, .int x4)]) 12 dX12_heldBy_12 (by decide) rfl ?_
  refine j_iconst (v := 0) 14 dX12_heldBy_14 (by decide) ?_
  refine j_istore (lv2 := [(6, .int 0), (5, .int s0), (0, .ref (ad 11 0)), (1, .int x1), (2, .int x2), (3, .int x3), (4, .int x4)]) 15 dX12_heldBy_15 (by decide) rfl ?_
  refine j_sub [2, 3, 4, 5, 6, 1, 0] rfl ?_
  exact tX12_heldBy_L17 X F S x1 x2 x3 F _ x4 s0 0
set_option maxRecDepth 100000 in
set_option maxHeartbeats 4000000 in
theorem tX12_heldBy {ad : Nat → Nat → Nat} (X : Ctx) (γ : Nat → Nat) (F : Nat) (S : St) (p1 : Int32) (p2 : Int32) (p3 : Int32) : JJ X ad γ (RQm X ad 0 0 (outpi S)) (fcm (outpi S)) 0 0 cX12_heldBy 7 RX12 wsX12_heldBy (some .int) (fX12_heldBy F S p1 p2 p3) S 0 [(0, .ref (ad 11 0)), (1, .int p1), (2, .int p2), (3, .int p3)] [] := by
  unfold fX12_heldBy
  refine j_iconst (v := (-1)) 0 dX12_heldBy_0 (by decide) ?_
  refine j_istore (lv2 := [(4, .int (-1)), (0, .ref (ad 11 0)), (1, .int p1), (2, .int p2), (3, .int p3)]) 1 dX12_heldBy_1 (by decide) rfl ?_
  refine j_iload_n 3 4 dX12_heldBy_3 rfl rfl ?_
  refine j_if_ne 4 11 dX12_heldBy_4 (by decide) (fun _ => ?_) (fun _ => ?_)
  · refine j_iconst (v := 0) 11 dX12_heldBy_11 (by decide) ?_
    refine j_sub [1, 2, 3, 4, 0] rfl ?_
    exact tX12_heldBy_j12 X _ F S p1 p2 p3 (-1) 0
  · refine j_iconst (v := (-1)) 7 dX12_heldBy_7 (by decide) ?_
    refine j_goto 8 12 dX12_heldBy_8 (by decide) ?_
    refine j_sub [1, 2, 3, 4, 0] rfl ?_
    exact tX12_heldBy_j12 X _ F S p1 p2 p3 (-1) (-1)
set_option maxRecDepth 100000 in
set_option maxHeartbeats 4000000 in
theorem kX12_heldBy {ad : Nat → Nat → Nat} (F : Nat) (S : St) (p1 : Int32) (p2 : Int32) (p3 : Int32) : ∀ b, fX12_heldBy F S p1 p2 p3 = some b → ∀ l dC dI cy, CT l dC dI cy ad yX12_heldBy wsX12_heldBy 0 0 [.ref (ad 11 0), .int p1, .int p2, .int p3] S (some (.int b)) S :=
  fun b hb l dC dI cy => ct_of (l := l) (dC := dC) (dI := dI) (cy := cy) (outpi S) (by decide) rfl (Nat.le_of_ble_eq_true rfl) rfl (fun X γ => tX12_heldBy X γ F S p1 p2 p3) b hb
-- X12_holds
set_option maxRecDepth 100000 in
set_option maxHeartbeats 4000000 in
theorem tX12_holds {ad : Nat → Nat → Nat} (X : Ctx) (γ : Nat → Nat) (F : Nat) (S : St) (p1 : Int32) (p2 : Int32) (p3 : Int32) : JJ X ad γ (RQm X ad 2 46 (outpi S)) (fcm (outpi S)) 2 46 cX12_holds 5 RX12 wsX12_holds (some .int) (fX12_holds F S p1 p2 p3) S 0 [(0, .ref (ad 11 0)), (1, .int p1), (2, .int p2), (3, .int p3)] [] := by
  unfold fX12_holds
  refine j_aload_n 0 0 dX12_holds_0 rfl rfl ?_
  refine j_iload_n 1 1 dX12_holds_1 rfl rfl ?_
  refine j_callV_pi 2 rfl (by decide) (prs_mem (by decide) (by decide))  [.int p1] [] gX12_holds_X12_isBlock rfl eX12_isBlock ⟨Nat.le_of_ble_eq_true rfl, Nat.le_of_ble_eq_true rfl⟩ rfl rfl (Nat.le_of_ble_eq_true rfl) dX12_holds_2 (kX12_isBlock S p1) (fun b_1 γ => ?_)
  refine j_if_eq 5 25 dX12_holds_5 (by decide) (fun _ => ?_) (fun _ => ?_)
  · refine j_iconst (v := (-1)) 25 dX12_holds_25 (by decide) ?_
    exact j_iret 26 rfl dX12_holds_26
  · refine j_iload_n 8 2 dX12_holds_8 rfl rfl ?_
    refine j_callS_pi 9  [.int p2] [] gX12_holds_X12_isYear rfl eX12_isYear ⟨Nat.le_of_ble_eq_true rfl, Nat.le_of_ble_eq_true rfl⟩ rfl rfl (Nat.le_of_ble_eq_true rfl) dX12_holds_9 (kX12_isYear S p2) (fun b_2 γ => ?_)
    refine j_if_eq 12 25 dX12_holds_12 (by decide) (fun _ => ?_) (fun _ => ?_)
    · refine j_iconst (v := (-1)) 25 dX12_holds_25 (by decide) ?_
      exact j_iret 26 rfl dX12_holds_26
    · refine j_iload_n 15 3 dX12_holds_15 rfl rfl ?_
      refine j_i2l 16 dX12_holds_16 ?_
      refine j_lconst (v := 0) 17 dX12_holds_17 (by decide) ?_
      refine j_lconst (v := 1) 18 dX12_holds_18 (by decide) ?_
      refine j_callS_pi 19  [.long p3.toInt64, .long 0, .long 1] [] gX12_holds_X12_in rfl eX12_in ⟨Nat.le_of_ble_eq_true rfl, Nat.le_of_ble_eq_true rfl⟩ rfl rfl (Nat.le_of_ble_eq_true rfl) dX12_holds_19 (kX12_in S p3.toInt64 0 1) (fun b_3 γ => ?_)
      refine j_if_ne 22 27 dX12_holds_22 (by decide) (fun _ => ?_) (fun _ => ?_)
      · refine j_aload_n 27 0 dX12_holds_27 rfl rfl ?_
        refine j_iload_n 28 1 dX12_holds_28 rfl rfl ?_
        refine j_iload_n 29 2 dX12_holds_29 rfl rfl ?_
        refine j_iload_n 30 3 dX12_holds_30 rfl rfl ?_
        refine j_callV_pi 31 rfl (by decide) (prs_mem (by decide) (by decide))  [.int p1, .int p2, .int p3] [] gX12_holds_X12_heldBy rfl eX12_heldBy ⟨Nat.le_of_ble_eq_true rfl, Nat.le_of_ble_eq_true rfl⟩ rfl rfl (Nat.le_of_ble_eq_true rfl) dX12_holds_31 (kX12_heldBy F S p1 p2 p3) (fun b_4 γ => ?_)
        refine j_istore (lv2 := [(4, .int b_4), (0, .ref (ad 11 0)), (1, .int p1), (2, .int p2), (3, .int p3)]) 34 dX12_holds_34 (by decide) rfl ?_
        refine j_iload 36 0 dX12_holds_36 rfl ?_
        refine j_if_ge 38 46 dX12_holds_38 (by decide) (fun _ => ?_) (fun _ => ?_)
        · refine j_iload 46 0 dX12_holds_46 rfl ?_
          exact j_iret 48 rfl dX12_holds_48
        · refine j_bipush (v := (-4)) 41 dX12_holds_41 (by decide) ?_
          refine j_goto 43 48 dX12_holds_43 (by decide) ?_
          exact j_iret 48 rfl dX12_holds_48
      · refine j_iconst (v := (-1)) 25 dX12_holds_25 (by decide) ?_
        exact j_iret 26 rfl dX12_holds_26
set_option maxRecDepth 100000 in
set_option maxHeartbeats 4000000 in
theorem kX12_holds {ad : Nat → Nat → Nat} (F : Nat) (S : St) (p1 : Int32) (p2 : Int32) (p3 : Int32) : ∀ b, fX12_holds F S p1 p2 p3 = some b → ∀ l dC dI cy, CT l dC dI cy ad yX12_holds wsX12_holds 2 46 [.ref (ad 11 0), .int p1, .int p2, .int p3] S (some (.int b)) S :=
  fun b hb l dC dI cy => ct_of (l := l) (dC := dC) (dI := dI) (cy := cy) (outpi S) (by decide) rfl (Nat.le_of_ble_eq_true rfl) rfl (fun X γ => tX12_holds X γ F S p1 p2 p3) b hb
-- X12_deed
theorem nX12_deed_X12 : ∀ w ∈ u_ws RX12 TX12 40, w ∈ wsX12_deed := by decide +kernel
theorem wX12_deed_c134 : Cond.constantLong RX12 134 (5) ∈ wsX12_deed := by decide +kernel
theorem wX12_deed_f214 : Cond.fieldLink RX12 214 "TwoTonguesModel" "deedMany" "I" ∈ wsX12_deed := by decide +kernel
theorem wX12_deed_f49 : Cond.fieldLink RX12 49 "TwoTonguesModel" "deeds" "[I" ∈ wsX12_deed := by decide +kernel
set_option maxRecDepth 100000 in
set_option maxHeartbeats 4000000 in
theorem tX12_deed {ad : Nat → Nat → Nat} (X : Ctx) (γ : Nat → Nat) (S : St) (p1 : Int32) (p2 : Int32) (p3 : Int32) (p4 : Int32) : JJ X ad γ (RQm X ad 2 46 outei) (fcm outei) 2 46 cX12_deed 6 RX12 wsX12_deed (some .int) (fX12_deed S p1 p2 p3 p4) S 0 [(0, .ref (ad 11 0)), (1, .int p1), (2, .int p2), (3, .int p3), (4, .int p4)] [] := by
  unfold fX12_deed
  refine j_aload_n 0 0 dX12_deed_0 rfl rfl ?_
  refine j_iload_n 1 1 dX12_deed_1 rfl rfl ?_
  refine j_callV_pi 2 rfl (by decide) (prs_mem (by decide) (by decide))  [.int p1] [] gX12_deed_X12_isBlock rfl eX12_isBlock ⟨Nat.le_of_ble_eq_true rfl, Nat.le_of_ble_eq_true rfl⟩ rfl rfl (Nat.le_of_ble_eq_true rfl) dX12_deed_2 (kX12_isBlock S p1) (fun b_1 γ => ?_)
  refine j_if_eq 5 35 dX12_deed_5 (by decide) (fun _ => ?_) (fun _ => ?_)
  · refine j_iconst (v := (-1)) 35 dX12_deed_35 (by decide) ?_
    exact j_iret 36 rfl dX12_deed_36
  · refine j_iload_n 8 2 dX12_deed_8 rfl rfl ?_
    refine j_callS_pi 9  [.int p2] [] gX12_deed_X12_isKin rfl eX12_isKin ⟨Nat.le_of_ble_eq_true rfl, Nat.le_of_ble_eq_true rfl⟩ rfl rfl (Nat.le_of_ble_eq_true rfl) dX12_deed_9 (kX12_isKin S p2) (fun b_2 γ => ?_)
    refine j_if_eq 12 35 dX12_deed_12 (by decide) (fun _ => ?_) (fun _ => ?_)
    · refine j_iconst (v := (-1)) 35 dX12_deed_35 (by decide) ?_
      exact j_iret 36 rfl dX12_deed_36
    · refine j_iload_n 15 3 dX12_deed_15 rfl rfl ?_
      refine j_i2l 16 dX12_deed_16 ?_
      refine j_lconst (v := 0) 17 dX12_deed_17 (by decide) ?_
      refine j_ldc2 (v := 5) 18 dX12_deed_18 wX12_deed_c134 ?_
      refine j_callS_pi 21  [.long p3.toInt64, .long 0, .long 5] [] gX12_deed_X12_in rfl eX12_in ⟨Nat.le_of_ble_eq_true rfl, Nat.le_of_ble_eq_true rfl⟩ rfl rfl (Nat.le_of_ble_eq_true rfl) dX12_deed_21 (kX12_in S p3.toInt64 0 5) (fun b_3 γ => ?_)
      refine j_if_eq 24 35 dX12_deed_24 (by decide) (fun _ => ?_) (fun _ => ?_)
      · refine j_iconst (v := (-1)) 35 dX12_deed_35 (by decide) ?_
        exact j_iret 36 rfl dX12_deed_36
      · refine j_iload 27 4 dX12_deed_27 rfl ?_
        refine j_callS_pi 29  [.int p4] [] gX12_deed_X12_isYear rfl eX12_isYear ⟨Nat.le_of_ble_eq_true rfl, Nat.le_of_ble_eq_true rfl⟩ rfl rfl (Nat.le_of_ble_eq_true rfl) dX12_deed_29 (kX12_isYear S p4) (fun b_4 γ => ?_)
        refine j_if_ne 32 37 dX12_deed_32 (by decide) (fun _ => ?_) (fun _ => ?_)
        · refine j_aload_n 37 0 dX12_deed_37 rfl rfl ?_
          refine j_geti 38 17 nX12_deed_X12 rfl (by decide) (prs_mem (by decide) (by decide)) (by decide) (by decide) wX12_deed_f214 (Or.inl rfl) rfl dX12_deed_38 ?_
          refine j_bipush (v := 20) 41 dX12_deed_41 (by decide) ?_
          refine j_icmp_ne 43 49 dX12_deed_43 (by decide) (fun _ => ?_) (fun _ => ?_)
          · refine j_iconst (v := 4) 49 dX12_deed_49 (by decide) ?_
            refine j_aload_n 50 0 dX12_deed_50 rfl rfl ?_
            refine j_geti 51 17 nX12_deed_X12 rfl (by decide) (prs_mem (by decide) (by decide)) (by decide) (by decide) wX12_deed_f214 (Or.inl rfl) rfl dX12_deed_51 ?_
            refine j_imul 54 dX12_deed_54 ?_
            refine j_bndi (fun x5_5 => ?_)
            refine j_istore (lv2 := [(5, .int x5_5), (0, .ref (ad 11 0)), (1, .int p1), (2, .int p2), (3, .int p3), (4, .int p4)]) 55 dX12_deed_55 (by decide) rfl ?_
            refine j_aload_n 57 1 dX12_deed_57 rfl rfl ?_
            refine j_getr (c2 := 66) (n2 := 0) 58 18 nX12_deed_X12 rfl (by decide) (prs_mem (by decide) (by decide)) (by decide) (by decide) wX12_deed_f49 (Or.inl rfl) rfl rfl rfl dX12_deed_58 ?_
            refine j_iload 61 0 dX12_deed_61 rfl ?_
            refine j_iload_n 63 2 dX12_deed_63 rfl rfl ?_
            refine j_iast (c := 66) (n := 0) (L := 80) 64 (prs_mem (by decide) (by decide)) (by decide) rfl rfl rfl dX12_deed_64 (j_bs (fun S_6 => ?_))
            refine j_aload_n 65 1 dX12_deed_65 rfl rfl ?_
            refine j_getr (c2 := 66) (n2 := 0) 66 18 nX12_deed_X12 rfl (by decide) (prs_mem (by decide) (by decide)) (by decide) (by decide) wX12_deed_f49 (Or.inl rfl) rfl rfl rfl dX12_deed_66 ?_
            refine j_iload 69 0 dX12_deed_69 rfl ?_
            refine j_iconst (v := 1) 71 dX12_deed_71 (by decide) ?_
            refine j_iadd 72 dX12_deed_72 ?_
            refine j_iload_n 73 3 dX12_deed_73 rfl rfl ?_
            refine j_iast (c := 66) (n := 0) (L := 80) 74 (prs_mem (by decide) (by decide)) (by decide) rfl rfl rfl dX12_deed_74 (j_bs (fun S_7 => ?_))
            refine j_aload_n 75 1 dX12_deed_75 rfl rfl ?_
            refine j_getr (c2 := 66) (n2 := 0) 76 18 nX12_deed_X12 rfl (by decide) (prs_mem (by decide) (by decide)) (by decide) (by decide) wX12_deed_f49 (Or.inl rfl) rfl rfl rfl dX12_deed_76 ?_
            refine j_iload 79 0 dX12_deed_79 rfl ?_
            refine j_iconst (v := 2) 81 dX12_deed_81 (by decide) ?_
            refine j_iadd 82 dX12_deed_82 ?_
            refine j_iload_n 83 4 dX12_deed_83 rfl rfl ?_
            refine j_iast (c := 66) (n := 0) (L := 80) 84 (prs_mem (by decide) (by decide)) (by decide) rfl rfl rfl dX12_deed_84 (j_bs (fun S_8 => ?_))
            refine j_aload_n 85 1 dX12_deed_85 rfl rfl ?_
            refine j_getr (c2 := 66) (n2 := 0) 86 18 nX12_deed_X12 rfl (by decide) (prs_mem (by decide) (by decide)) (by decide) (by decide) wX12_deed_f49 (Or.inl rfl) rfl rfl rfl dX12_deed_86 ?_
            refine j_iload 89 0 dX12_deed_89 rfl ?_
            refine j_iconst (v := 3) 91 dX12_deed_91 (by decide) ?_
            refine j_iadd 92 dX12_deed_92 ?_
            refine j_iload 93 5 dX12_deed_93 rfl ?_
            refine j_iast (c := 66) (n := 0) (L := 80) 95 (prs_mem (by decide) (by decide)) (by decide) rfl rfl rfl dX12_deed_95 (j_bs (fun S_9 => ?_))
            refine j_aload_n 96 1 dX12_deed_96 rfl rfl ?_
            refine j_dup 97 dX12_deed_97 rfl ?_
            refine j_geti 98 17 nX12_deed_X12 rfl (by decide) (prs_mem (by decide) (by decide)) (by decide) (by decide) wX12_deed_f214 (Or.inl rfl) rfl dX12_deed_98 ?_
            refine j_iconst (v := 1) 101 dX12_deed_101 (by decide) ?_
            refine j_iadd 102 dX12_deed_102 ?_
            refine j_puti 103 17 nX12_deed_X12 rfl (by decide) (prs_mem (by decide) (by decide)) (by decide) (by decide) wX12_deed_f214 (Or.inl rfl) tyX12 tyX12_ok nmX12 rfl (by decide) rfl dX12_deed_103 (j_bs (fun S_10 => ?_))
            refine j_aload_n 106 1 dX12_deed_106 rfl rfl ?_
            refine j_geti 107 17 nX12_deed_X12 rfl (by decide) (prs_mem (by decide) (by decide)) (by decide) (by decide) wX12_deed_f214 (Or.inl rfl) rfl dX12_deed_107 ?_
            refine j_iconst (v := 1) 110 dX12_deed_110 (by decide) ?_
            refine j_isub 111 dX12_deed_111 ?_
            exact j_iret 112 rfl dX12_deed_112
          · refine j_bipush (v := (-3)) 46 dX12_deed_46 (by decide) ?_
            exact j_iret 48 rfl dX12_deed_48
        · refine j_iconst (v := (-1)) 35 dX12_deed_35 (by decide) ?_
          exact j_iret 36 rfl dX12_deed_36
set_option maxRecDepth 100000 in
set_option maxHeartbeats 4000000 in
theorem kX12_deed {ad : Nat → Nat → Nat} (S : St) (p1 : Int32) (p2 : Int32) (p3 : Int32) (p4 : Int32) : ∀ b, fX12_deed S p1 p2 p3 p4 = some b → ∀ l dC dI cy, CT l dC dI cy ad yX12_deed wsX12_deed 2 46 [.ref (ad 11 0), .int p1, .int p2, .int p3, .int p4] S (some (.int b.1)) b.2 :=
  fun b hb l dC dI cy => ct_of (l := l) (dC := dC) (dI := dI) (cy := cy) outei (by decide) rfl (Nat.le_of_ble_eq_true rfl) rfl (fun X γ => tX12_deed X γ S p1 p2 p3 p4) b hb
-- X12_could
theorem nX12_could_X12 : ∀ w ∈ u_ws RX12 TX12 40, w ∈ wsX12_could := by decide +kernel
theorem wX12_could_f214 : Cond.fieldLink RX12 214 "TwoTonguesModel" "deedMany" "I" ∈ wsX12_could := by decide +kernel
theorem wX12_could_f49 : Cond.fieldLink RX12 49 "TwoTonguesModel" "deeds" "[I" ∈ wsX12_could := by decide +kernel
set_option maxRecDepth 100000 in
set_option maxHeartbeats 4000000 in
theorem tX12_could_j102 {ad : Nat → Nat → Nat} (X : Ctx) (γ : Nat → Nat) (F : Nat) (S : St) (x3 : Int32) (x4 : Int32) (x5 : Int32)   : JJ X ad γ (RQm X ad 1 26 (outpi S)) (fcm (outpi S)) 1 26 cX12_could 6 RX12 wsX12_could (some .int) (fX12_could_j102 F S x3 x4 x5) S 102 [(3, .int x3), (4, .int x4), (5, .int x5)] [] := by
  unfold fX12_could_j102
  refine j_iload 102 1 dX12_could_102 rfl ?_
  refine j_if_ne 104 116 dX12_could_104 (by decide) (fun _ => ?_) (fun _ => ?_)
  · refine j_iconst (v := 1) 116 dX12_could_116 (by decide) ?_
    refine j_goto 117 121 dX12_could_117 (by decide) ?_
    exact j_iret 121 rfl dX12_could_121
  · refine j_iload 107 2 dX12_could_107 rfl ?_
    refine j_iload_n 109 0 dX12_could_109 rfl rfl ?_
    refine j_callS_pi 110  [.int x5, .int x3] [] gX12_could_X12_has rfl eX12_has ⟨Nat.le_of_ble_eq_true rfl, Nat.le_of_ble_eq_true rfl⟩ rfl rfl (Nat.le_of_ble_eq_true rfl) dX12_could_110 (kX12_has S x5 x3) (fun b_6 γ => ?_)
    refine j_if_eq 113 120 dX12_could_113 (by decide) (fun _ => ?_) (fun _ => ?_)
    · refine j_iconst (v := 0) 120 dX12_could_120 (by decide) ?_
      exact j_iret 121 rfl dX12_could_121
    · refine j_iconst (v := 1) 116 dX12_could_116 (by decide) ?_
      refine j_goto 117 121 dX12_could_117 (by decide) ?_
      exact j_iret 121 rfl dX12_could_121
set_option maxRecDepth 100000 in
set_option maxHeartbeats 4000000 in
theorem tX12_could_j59 {ad : Nat → Nat → Nat} (X : Ctx) (γ : Nat → Nat) (F : Nat) (S : St) (x2 : Int32) (x3 : Int32) (s0 : Int32)   : JJ X ad γ (RQm X ad 1 26 (outpi S)) (fcm (outpi S)) 1 26 cX12_could 6 RX12 wsX12_could (some .int) (fX12_could_j59 F S x2 x3 s0) S 59 [(0, .ref (ad 11 0)), (2, .int x2), (3, .int x3)] [.int s0] := by
  unfold fX12_could_j59
  refine j_istore (lv2 := [(4, .int s0), (0, .ref (ad 11 0)), (2, .int x2), (3, .int x3)]) 59 dX12_could_59 (by decide) rfl ?_
  refine j_aload_n 61 1 dX12_could_61 rfl rfl ?_
  refine j_aload_n 62 1 dX12_could_62 rfl rfl ?_
  refine j_getr (c2 := 66) (n2 := 0) 63 18 nX12_could_X12 rfl (by decide) (prs_mem (by decide) (by decide)) (by decide) (by decide) wX12_could_f49 (Or.inl rfl) rfl rfl rfl dX12_could_63 ?_
  refine j_iload_n 66 2 dX12_could_66 rfl rfl ?_
  refine j_iald (c := 66) (n := 0) (L := 80) 67 (prs_mem (by decide) (by decide)) (by decide) rfl rfl rfl dX12_could_67 ?_
  refine j_aload_n 68 1 dX12_could_68 rfl rfl ?_
  refine j_getr (c2 := 66) (n2 := 0) 69 18 nX12_could_X12 rfl (by decide) (prs_mem (by decide) (by decide)) (by decide) (by decide) wX12_could_f49 (Or.inl rfl) rfl rfl rfl dX12_could_69 ?_
  refine j_iload_n 72 2 dX12_could_72 rfl rfl ?_
  refine j_iconst (v := 3) 73 dX12_could_73 (by decide) ?_
  refine j_iadd 74 dX12_could_74 ?_
  refine j_iald (c := 66) (n := 0) (L := 80) 75 (prs_mem (by decide) (by decide)) (by decide) rfl rfl rfl dX12_could_75 ?_
  refine j_iconst (v := 1) 76 dX12_could_76 (by decide) ?_
  refine j_callV_pi 77 rfl (by decide) (prs_mem (by decide) (by decide))  [.int (gA S 66 0 x2.toNatClampNeg), .int (gA S 66 0 (x2 + 3).toNatClampNeg), .int 1] [] gX12_could_X12_heldBy rfl eX12_heldBy ⟨Nat.le_of_ble_eq_true rfl, Nat.le_of_ble_eq_true rfl⟩ rfl rfl (Nat.le_of_ble_eq_true rfl) dX12_could_77 (kX12_heldBy F S (gA S 66 0 x2.toNatClampNeg) (gA S 66 0 (x2 + 3).toNatClampNeg) 1) (fun b_5 γ => ?_)
  refine j_istore (lv2 := [(5, .int b_5), (4, .int s0), (0, .ref (ad 11 0)), (2, .int x2), (3, .int x3)]) 80 dX12_could_80 (by decide) rfl ?_
  refine j_iload 82 1 dX12_could_82 rfl ?_
  refine j_if_eq 84 102 dX12_could_84 (by decide) (fun _ => ?_) (fun _ => ?_)
  · refine j_sub [4, 1, 0] rfl ?_
    exact tX12_could_j102 X _ F S x3 s0 b_5
  · refine j_iload 87 0 dX12_could_87 rfl ?_
    refine j_iconst (v := 1) 89 dX12_could_89 (by decide) ?_
    refine j_iload_n 90 4 dX12_could_90 rfl rfl ?_
    refine j_ishl 91 dX12_could_91 ?_
    refine j_iconst (v := (-1)) 92 dX12_could_92 (by decide) ?_
    refine j_ixor 93 dX12_could_93 ?_
    refine j_iand 94 dX12_could_94 ?_
    refine j_if_ne 95 102 dX12_could_95 (by decide) (fun _ => ?_) (fun _ => ?_)
    · refine j_sub [4, 1, 0] rfl ?_
      exact tX12_could_j102 X _ F S x3 s0 b_5
    · refine j_iconst (v := 2) 98 dX12_could_98 (by decide) ?_
      refine j_goto 99 121 dX12_could_99 (by decide) ?_
      exact j_iret 121 rfl dX12_could_121
set_option maxRecDepth 100000 in
set_option maxHeartbeats 4000000 in
theorem tX12_could {ad : Nat → Nat → Nat} (X : Ctx) (γ : Nat → Nat) (F : Nat) (S : St) (p1 : Int32) : JJ X ad γ (RQm X ad 1 26 (outpi S)) (fcm (outpi S)) 1 26 cX12_could 6 RX12 wsX12_could (some .int) (fX12_could F S p1) S 0 [(0, .ref (ad 11 0)), (1, .int p1)] [] := by
  unfold fX12_could
  refine j_iload_n 0 1 dX12_could_0 rfl rfl ?_
  refine j_i2l 1 dX12_could_1 ?_
  refine j_lconst (v := 0) 2 dX12_could_2 (by decide) ?_
  refine j_aload_n 3 0 dX12_could_3 rfl rfl ?_
  refine j_geti 4 17 nX12_could_X12 rfl (by decide) (prs_mem (by decide) (by decide)) (by decide) (by decide) wX12_could_f214 (Or.inl rfl) rfl dX12_could_4 ?_
  refine j_iconst (v := 1) 7 dX12_could_7 (by decide) ?_
  refine j_isub 8 dX12_could_8 ?_
  refine j_i2l 9 dX12_could_9 ?_
  refine j_callS_pi 10  [.long p1.toInt64, .long 0, .long ((gI S 11 0 17) - 1).toInt64] [] gX12_could_X12_in rfl eX12_in ⟨Nat.le_of_ble_eq_true rfl, Nat.le_of_ble_eq_true rfl⟩ rfl rfl (Nat.le_of_ble_eq_true rfl) dX12_could_10 (kX12_in S p1.toInt64 0 ((gI S 11 0 17) - 1).toInt64) (fun b_1 γ => ?_)
  refine j_if_ne 13 18 dX12_could_13 (by decide) (fun _ => ?_) (fun _ => ?_)
  · refine j_iconst (v := 4) 18 dX12_could_18 (by decide) ?_
    refine j_iload_n 19 1 dX12_could_19 rfl rfl ?_
    refine j_imul 20 dX12_could_20 ?_
    refine j_bndi (fun x2_2 => ?_)
    refine j_istore_n (lv2 := [(2, .int x2_2), (0, .ref (ad 11 0)), (1, .int p1)]) 21 dX12_could_21 rfl (by decide) rfl ?_
    refine j_aload_n 22 1 dX12_could_22 rfl rfl ?_
    refine j_getr (c2 := 66) (n2 := 0) 23 18 nX12_could_X12 rfl (by decide) (prs_mem (by decide) (by decide)) (by decide) (by decide) wX12_could_f49 (Or.inl rfl) rfl rfl rfl dX12_could_23 ?_
    refine j_iload_n 26 0 dX12_could_26 rfl rfl ?_
    refine j_iconst (v := 1) 27 dX12_could_27 (by decide) ?_
    refine j_iadd 28 dX12_could_28 ?_
    refine j_iald (c := 66) (n := 0) (L := 80) 29 (prs_mem (by decide) (by decide)) (by decide) rfl rfl rfl dX12_could_29 ?_
    refine j_bndi (fun x3_3 => ?_)
    refine j_istore_n (lv2 := [(3, .int x3_3), (2, .int x2_2), (0, .ref (ad 11 0)), (1, .int p1)]) 30 dX12_could_30 rfl (by decide) rfl ?_
    refine j_aload_n 31 2 dX12_could_31 rfl rfl ?_
    refine j_aload_n 32 2 dX12_could_32 rfl rfl ?_
    refine j_getr (c2 := 66) (n2 := 0) 33 18 nX12_could_X12 rfl (by decide) (prs_mem (by decide) (by decide)) (by decide) (by decide) wX12_could_f49 (Or.inl rfl) rfl rfl rfl dX12_could_33 ?_
    refine j_iload_n 36 1 dX12_could_36 rfl rfl ?_
    refine j_iald (c := 66) (n := 0) (L := 80) 37 (prs_mem (by decide) (by decide)) (by decide) rfl rfl rfl dX12_could_37 ?_
    refine j_aload_n 38 2 dX12_could_38 rfl rfl ?_
    refine j_getr (c2 := 66) (n2 := 0) 39 18 nX12_could_X12 rfl (by decide) (prs_mem (by decide) (by decide)) (by decide) (by decide) wX12_could_f49 (Or.inl rfl) rfl rfl rfl dX12_could_39 ?_
    refine j_iload_n 42 1 dX12_could_42 rfl rfl ?_
    refine j_iconst (v := 3) 43 dX12_could_43 (by decide) ?_
    refine j_iadd 44 dX12_could_44 ?_
    refine j_iald (c := 66) (n := 0) (L := 80) 45 (prs_mem (by decide) (by decide)) (by decide) rfl rfl rfl dX12_could_45 ?_
    refine j_iconst (v := 0) 46 dX12_could_46 (by decide) ?_
    refine j_callV_pi 47 rfl (by decide) (prs_mem (by decide) (by decide))  [.int (gA S 66 0 x2_2.toNatClampNeg), .int (gA S 66 0 (x2_2 + 3).toNatClampNeg), .int 0] [] gX12_could_X12_heldBy rfl eX12_heldBy ⟨Nat.le_of_ble_eq_true rfl, Nat.le_of_ble_eq_true rfl⟩ rfl rfl (Nat.le_of_ble_eq_true rfl) dX12_could_47 (kX12_heldBy F S (gA S 66 0 x2_2.toNatClampNeg) (gA S 66 0 (x2_2 + 3).toNatClampNeg) 0) (fun b_4 γ => ?_)
    refine j_iload_n 50 0 dX12_could_50 rfl rfl ?_
    refine j_icmp_ne 51 58 dX12_could_51 (by decide) (fun _ => ?_) (fun _ => ?_)
    · refine j_iconst (v := 0) 58 dX12_could_58 (by decide) ?_
      refine j_sub [2, 1, 0] rfl ?_
      exact tX12_could_j59 X _ F S x2_2 x3_3 0
    · refine j_iconst (v := 1) 54 dX12_could_54 (by decide) ?_
      refine j_goto 55 59 dX12_could_55 (by decide) ?_
      refine j_sub [2, 1, 0] rfl ?_
      exact tX12_could_j59 X _ F S x2_2 x3_3 1
  · refine j_iconst (v := (-1)) 16 dX12_could_16 (by decide) ?_
    exact j_iret 17 rfl dX12_could_17
set_option maxRecDepth 100000 in
set_option maxHeartbeats 4000000 in
theorem kX12_could {ad : Nat → Nat → Nat} (F : Nat) (S : St) (p1 : Int32) : ∀ b, fX12_could F S p1 = some b → ∀ l dC dI cy, CT l dC dI cy ad yX12_could wsX12_could 1 26 [.ref (ad 11 0), .int p1] S (some (.int b)) S :=
  fun b hb l dC dI cy => ct_of (l := l) (dC := dC) (dI := dI) (cy := cy) (outpi S) (by decide) rfl (Nat.le_of_ble_eq_true rfl) rfl (fun X γ => tX12_could X γ F S p1) b hb
-- X12_twice
theorem nX12_twice_X12 : ∀ w ∈ u_ws RX12 TX12 40, w ∈ wsX12_twice := by decide +kernel
theorem wX12_twice_f214 : Cond.fieldLink RX12 214 "TwoTonguesModel" "deedMany" "I" ∈ wsX12_twice := by decide +kernel
theorem wX12_twice_f49 : Cond.fieldLink RX12 49 "TwoTonguesModel" "deeds" "[I" ∈ wsX12_twice := by decide +kernel
set_option maxRecDepth 100000 in
set_option maxHeartbeats 4000000 in
theorem tX12_twice_L24 {ad : Nat → Nat → Nat} (X : Ctx) (F : Nat) (S : St) (x1 : Int32) (x2 : Int32) (k79 : Int32 → Option Int32) (k92 : Option Int32)  (hk79 : ∀ (γ : Nat → Nat) (x3 : Int32), JJ X ad γ (RQm X ad 2 46 (outpi S)) (fcm (outpi S)) 2 46 cX12_twice 4 RX12 wsX12_twice (some .int) (k79 x3) S 79 [(2, .int x2), (3, .int x3)] []) (hk92 : ∀ (γ : Nat → Nat), JJ X ad γ (RQm X ad 2 46 (outpi S)) (fcm (outpi S)) 2 46 cX12_twice 4 RX12 wsX12_twice (some .int) (k92) S 92 [(0, .ref (ad 11 0)), (1, .int x1), (2, .int x2)] []) : ∀ (n : Nat) (γ : Nat → Nat) (x3 : Int32), JJ X ad γ (RQm X ad 2 46 (outpi S)) (fcm (outpi S)) 2 46 cX12_twice 4 RX12 wsX12_twice (some .int) (fX12_twice_L24 F S x1 x2 k79 k92 n x3) S 24 [(0, .ref (ad 11 0)), (1, .int x1), (2, .int x2), (3, .int x3)] [] := by
  intro n
  induction n with
  | zero => intro _ _; exact j_none
  | succ n ih =>
    intro γ x3
    rw [show fX12_twice_L24 F S x1 x2 k79 k92 (n + 1) x3 = fX12_twice_b24 F S x1 x2 k79 k92 (fX12_twice_L24 F S x1 x2 k79 k92 n) x3 from rfl]
    unfold fX12_twice_b24
    refine j_iload_n 24 3 dX12_twice_24 rfl rfl ?_
    refine j_aload_n 25 0 dX12_twice_25 rfl rfl ?_
    refine j_geti 26 17 nX12_twice_X12 rfl (by decide) (prs_mem (by decide) (by decide)) (by decide) (by decide) wX12_twice_f214 (Or.inl rfl) rfl dX12_twice_26 ?_
    refine j_icmp_ge 29 92 dX12_twice_29 (by decide) (fun _ => ?_) (fun _ => ?_)
    · refine j_sub [0, 1, 2] rfl ?_
      exact hk92 _
    · refine j_aload_n 32 0 dX12_twice_32 rfl rfl ?_
      refine j_getr (c2 := 66) (n2 := 0) 33 18 nX12_twice_X12 rfl (by decide) (prs_mem (by decide) (by decide)) (by decide) (by decide) wX12_twice_f49 (Or.inl rfl) rfl rfl rfl dX12_twice_33 ?_
      refine j_iconst (v := 4) 36 dX12_twice_36 (by decide) ?_
      refine j_iload_n 37 2 dX12_twice_37 rfl rfl ?_
      refine j_imul 38 dX12_twice_38 ?_
      refine j_iald (c := 66) (n := 0) (L := 80) 39 (prs_mem (by decide) (by decide)) (by decide) rfl rfl rfl dX12_twice_39 ?_
      refine j_iload_n 40 1 dX12_twice_40 rfl rfl ?_
      refine j_icmp_ne 41 86 dX12_twice_41 (by decide) (fun _ => ?_) (fun _ => ?_)
      · refine j_iinc (v := x3 + 1) (lv2 := [(3, .int (x3 + 1)), (0, .ref (ad 11 0)), (1, .int x1), (2, .int x2)]) 86 3 dX12_twice_86 rfl rfl (by decide) rfl ?_
        refine j_goto 89 24 dX12_twice_89 (by decide) ?_
        refine j_sub [1, 2, 3, 0] rfl ?_
        exact ih _ (x3 + 1)
      · refine j_aload_n 44 0 dX12_twice_44 rfl rfl ?_
        refine j_getr (c2 := 66) (n2 := 0) 45 18 nX12_twice_X12 rfl (by decide) (prs_mem (by decide) (by decide)) (by decide) (by decide) wX12_twice_f49 (Or.inl rfl) rfl rfl rfl dX12_twice_45 ?_
        refine j_iconst (v := 4) 48 dX12_twice_48 (by decide) ?_
        refine j_iload_n 49 3 dX12_twice_49 rfl rfl ?_
        refine j_imul 50 dX12_twice_50 ?_
        refine j_iald (c := 66) (n := 0) (L := 80) 51 (prs_mem (by decide) (by decide)) (by decide) rfl rfl rfl dX12_twice_51 ?_
        refine j_iload_n 52 1 dX12_twice_52 rfl rfl ?_
        refine j_icmp_ne 53 86 dX12_twice_53 (by decide) (fun _ => ?_) (fun _ => ?_)
        · refine j_iinc (v := x3 + 1) (lv2 := [(3, .int (x3 + 1)), (0, .ref (ad 11 0)), (1, .int x1), (2, .int x2)]) 86 3 dX12_twice_86 rfl rfl (by decide) rfl ?_
          refine j_goto 89 24 dX12_twice_89 (by decide) ?_
          refine j_sub [1, 2, 3, 0] rfl ?_
          exact ih _ (x3 + 1)
        · refine j_aload_n 56 0 dX12_twice_56 rfl rfl ?_
          refine j_getr (c2 := 66) (n2 := 0) 57 18 nX12_twice_X12 rfl (by decide) (prs_mem (by decide) (by decide)) (by decide) (by decide) wX12_twice_f49 (Or.inl rfl) rfl rfl rfl dX12_twice_57 ?_
          refine j_iconst (v := 4) 60 dX12_twice_60 (by decide) ?_
          refine j_iload_n 61 2 dX12_twice_61 rfl rfl ?_
          refine j_imul 62 dX12_twice_62 ?_
          refine j_iconst (v := 1) 63 dX12_twice_63 (by decide) ?_
          refine j_iadd 64 dX12_twice_64 ?_
          refine j_iald (c := 66) (n := 0) (L := 80) 65 (prs_mem (by decide) (by decide)) (by decide) rfl rfl rfl dX12_twice_65 ?_
          refine j_aload_n 66 0 dX12_twice_66 rfl rfl ?_
          refine j_getr (c2 := 66) (n2 := 0) 67 18 nX12_twice_X12 rfl (by decide) (prs_mem (by decide) (by decide)) (by decide) (by decide) wX12_twice_f49 (Or.inl rfl) rfl rfl rfl dX12_twice_67 ?_
          refine j_iconst (v := 4) 70 dX12_twice_70 (by decide) ?_
          refine j_iload_n 71 3 dX12_twice_71 rfl rfl ?_
          refine j_imul 72 dX12_twice_72 ?_
          refine j_iconst (v := 1) 73 dX12_twice_73 (by decide) ?_
          refine j_iadd 74 dX12_twice_74 ?_
          refine j_iald (c := 66) (n := 0) (L := 80) 75 (prs_mem (by decide) (by decide)) (by decide) rfl rfl rfl dX12_twice_75 ?_
          refine j_icmp_eq 76 86 dX12_twice_76 (by decide) (fun _ => ?_) (fun _ => ?_)
          · refine j_iinc (v := x3 + 1) (lv2 := [(3, .int (x3 + 1)), (0, .ref (ad 11 0)), (1, .int x1), (2, .int x2)]) 86 3 dX12_twice_86 rfl rfl (by decide) rfl ?_
            refine j_goto 89 24 dX12_twice_89 (by decide) ?_
            refine j_sub [1, 2, 3, 0] rfl ?_
            exact ih _ (x3 + 1)
          · refine j_sub [2, 3] rfl ?_
            exact hk79 _ x3
set_option maxRecDepth 100000 in
set_option maxHeartbeats 4000000 in
theorem tX12_twice_L12 {ad : Nat → Nat → Nat} (X : Ctx) (F : Nat) (S : St) (x1 : Int32) (k79 : Int32 → Int32 → Option Int32)  (hk79 : ∀ (γ : Nat → Nat) (x2 : Int32) (x3 : Int32), JJ X ad γ (RQm X ad 2 46 (outpi S)) (fcm (outpi S)) 2 46 cX12_twice 4 RX12 wsX12_twice (some .int) (k79 x2 x3) S 79 [(2, .int x2), (3, .int x3)] []) : ∀ (n : Nat) (γ : Nat → Nat) (x2 : Int32), JJ X ad γ (RQm X ad 2 46 (outpi S)) (fcm (outpi S)) 2 46 cX12_twice 4 RX12 wsX12_twice (some .int) (fX12_twice_L12 F S x1 k79 n x2) S 12 [(0, .ref (ad 11 0)), (1, .int x1), (2, .int x2)] [] := by
  intro n
  induction n with
  | zero => intro _ _; exact j_none
  | succ n ih =>
    intro γ x2
    rw [show fX12_twice_L12 F S x1 k79 (n + 1) x2 = fX12_twice_b12 F S x1 k79 (fX12_twice_L12 F S x1 k79 n) x2 from rfl]
    unfold fX12_twice_b12
    refine j_iload_n 12 2 dX12_twice_12 rfl rfl ?_
    refine j_aload_n 13 0 dX12_twice_13 rfl rfl ?_
    refine j_geti 14 17 nX12_twice_X12 rfl (by decide) (prs_mem (by decide) (by decide)) (by decide) (by decide) wX12_twice_f214 (Or.inl rfl) rfl dX12_twice_14 ?_
    refine j_icmp_ge 17 98 dX12_twice_17 (by decide) (fun _ => ?_) (fun _ => ?_)
    · refine j_bipush (v := (-4)) 98 dX12_twice_98 (by decide) ?_
      exact j_iret 100 rfl dX12_twice_100
    · refine j_iload_n 20 2 dX12_twice_20 rfl rfl ?_
      refine j_iconst (v := 1) 21 dX12_twice_21 (by decide) ?_
      refine j_iadd 22 dX12_twice_22 ?_
      refine j_bndi (fun x3_2 => ?_)
      refine j_istore_n (lv2 := [(3, .int x3_2), (0, .ref (ad 11 0)), (1, .int x1), (2, .int x2)]) 23 dX12_twice_23 rfl (by decide) rfl ?_
      refine j_sub [1, 2, 3, 0] rfl ?_
      refine tX12_twice_L24 X F S x1 x2 _ _ (fun γ x3_3 => ?_) (fun γ => ?_) F _ x3_2
      · exact hk79 _ x2 x3_3
      · refine j_iinc (v := x2 + 1) (lv2 := [(2, .int (x2 + 1)), (0, .ref (ad 11 0)), (1, .int x1)]) 92 2 dX12_twice_92 rfl rfl (by decide) rfl ?_
        refine j_goto 95 12 dX12_twice_95 (by decide) ?_
        refine j_sub [1, 2, 0] rfl ?_
        exact ih _ (x2 + 1)
set_option maxRecDepth 100000 in
set_option maxHeartbeats 4000000 in
theorem tX12_twice {ad : Nat → Nat → Nat} (X : Ctx) (γ : Nat → Nat) (F : Nat) (S : St) (p1 : Int32) : JJ X ad γ (RQm X ad 2 46 (outpi S)) (fcm (outpi S)) 2 46 cX12_twice 4 RX12 wsX12_twice (some .int) (fX12_twice F S p1) S 0 [(0, .ref (ad 11 0)), (1, .int p1)] [] := by
  unfold fX12_twice
  refine j_aload_n 0 0 dX12_twice_0 rfl rfl ?_
  refine j_iload_n 1 1 dX12_twice_1 rfl rfl ?_
  refine j_callV_pi 2 rfl (by decide) (prs_mem (by decide) (by decide))  [.int p1] [] gX12_twice_X12_isBlock rfl eX12_isBlock ⟨Nat.le_of_ble_eq_true rfl, Nat.le_of_ble_eq_true rfl⟩ rfl rfl (Nat.le_of_ble_eq_true rfl) dX12_twice_2 (kX12_isBlock S p1) (fun b_1 γ => ?_)
  refine j_if_ne 5 10 dX12_twice_5 (by decide) (fun _ => ?_) (fun _ => ?_)
  · refine j_iconst (v := 0) 10 dX12_twice_10 (by decide) ?_
    refine j_istore_n (lv2 := [(2, .int 0), (0, .ref (ad 11 0)), (1, .int p1)]) 11 dX12_twice_11 rfl (by decide) rfl ?_
    refine j_sub [1, 2, 0] rfl ?_
    refine tX12_twice_L12 X F S p1 _ (fun γ x2_4 x3_5 => ?_) F _ 0
    refine j_bipush (v := 100) 79 dX12_twice_79 (by decide) ?_
    refine j_iload_n 81 0 dX12_twice_81 rfl rfl ?_
    refine j_imul 82 dX12_twice_82 ?_
    refine j_iload_n 83 1 dX12_twice_83 rfl rfl ?_
    refine j_iadd 84 dX12_twice_84 ?_
    exact j_iret 85 rfl dX12_twice_85
  · refine j_iconst (v := (-1)) 8 dX12_twice_8 (by decide) ?_
    exact j_iret 9 rfl dX12_twice_9
set_option maxRecDepth 100000 in
set_option maxHeartbeats 4000000 in
theorem kX12_twice {ad : Nat → Nat → Nat} (F : Nat) (S : St) (p1 : Int32) : ∀ b, fX12_twice F S p1 = some b → ∀ l dC dI cy, CT l dC dI cy ad yX12_twice wsX12_twice 2 46 [.ref (ad 11 0), .int p1] S (some (.int b)) S :=
  fun b hb l dC dI cy => ct_of (l := l) (dC := dC) (dI := dI) (cy := cy) (outpi S) (by decide) rfl (Nat.le_of_ble_eq_true rfl) rfl (fun X γ => tX12_twice X γ F S p1) b hb
-- X12_take
theorem nX12_take_X12 : ∀ w ∈ u_ws RX12 TX12 40, w ∈ wsX12_take := by decide +kernel
theorem wX12_take_f217 : Cond.fieldLink RX12 217 "TwoTonguesModel" "takingMany" "I" ∈ wsX12_take := by decide +kernel
theorem wX12_take_f52 : Cond.fieldLink RX12 52 "TwoTonguesModel" "takings" "[I" ∈ wsX12_take := by decide +kernel
set_option maxRecDepth 100000 in
set_option maxHeartbeats 4000000 in
theorem tX12_take {ad : Nat → Nat → Nat} (X : Ctx) (γ : Nat → Nat) (S : St) (p1 : Int32) (p2 : Int32) (p3 : Int32) : JJ X ad γ (RQm X ad 2 46 outei) (fcm outei) 2 46 cX12_take 4 RX12 wsX12_take (some .int) (fX12_take S p1 p2 p3) S 0 [(0, .ref (ad 11 0)), (1, .int p1), (2, .int p2), (3, .int p3)] [] := by
  unfold fX12_take
  refine j_aload_n 0 0 dX12_take_0 rfl rfl ?_
  refine j_iload_n 1 1 dX12_take_1 rfl rfl ?_
  refine j_callV_pi 2 rfl (by decide) (prs_mem (by decide) (by decide))  [.int p1] [] gX12_take_X12_isBlock rfl eX12_isBlock ⟨Nat.le_of_ble_eq_true rfl, Nat.le_of_ble_eq_true rfl⟩ rfl rfl (Nat.le_of_ble_eq_true rfl) dX12_take_2 (kX12_isBlock S p1) (fun b_1 γ => ?_)
  refine j_if_eq 5 22 dX12_take_5 (by decide) (fun _ => ?_) (fun _ => ?_)
  · refine j_iconst (v := (-1)) 22 dX12_take_22 (by decide) ?_
    exact j_iret 23 rfl dX12_take_23
  · refine j_iload_n 8 2 dX12_take_8 rfl rfl ?_
    refine j_callS_pi 9  [.int p2] [] gX12_take_X12_isKin rfl eX12_isKin ⟨Nat.le_of_ble_eq_true rfl, Nat.le_of_ble_eq_true rfl⟩ rfl rfl (Nat.le_of_ble_eq_true rfl) dX12_take_9 (kX12_isKin S p2) (fun b_2 γ => ?_)
    refine j_if_eq 12 22 dX12_take_12 (by decide) (fun _ => ?_) (fun _ => ?_)
    · refine j_iconst (v := (-1)) 22 dX12_take_22 (by decide) ?_
      exact j_iret 23 rfl dX12_take_23
    · refine j_iload_n 15 3 dX12_take_15 rfl rfl ?_
      refine j_callS_pi 16  [.int p3] [] gX12_take_X12_isYear rfl eX12_isYear ⟨Nat.le_of_ble_eq_true rfl, Nat.le_of_ble_eq_true rfl⟩ rfl rfl (Nat.le_of_ble_eq_true rfl) dX12_take_16 (kX12_isYear S p3) (fun b_3 γ => ?_)
      refine j_if_ne 19 24 dX12_take_19 (by decide) (fun _ => ?_) (fun _ => ?_)
      · refine j_aload_n 24 0 dX12_take_24 rfl rfl ?_
        refine j_geti 25 19 nX12_take_X12 rfl (by decide) (prs_mem (by decide) (by decide)) (by decide) (by decide) wX12_take_f217 (Or.inl rfl) rfl dX12_take_25 ?_
        refine j_bipush (v := 12) 28 dX12_take_28 (by decide) ?_
        refine j_icmp_ne 30 36 dX12_take_30 (by decide) (fun _ => ?_) (fun _ => ?_)
        · refine j_aload_n 36 0 dX12_take_36 rfl rfl ?_
          refine j_getr (c2 := 67) (n2 := 0) 37 20 nX12_take_X12 rfl (by decide) (prs_mem (by decide) (by decide)) (by decide) (by decide) wX12_take_f52 (Or.inl rfl) rfl rfl rfl dX12_take_37 ?_
          refine j_iconst (v := 3) 40 dX12_take_40 (by decide) ?_
          refine j_aload_n 41 0 dX12_take_41 rfl rfl ?_
          refine j_geti 42 19 nX12_take_X12 rfl (by decide) (prs_mem (by decide) (by decide)) (by decide) (by decide) wX12_take_f217 (Or.inl rfl) rfl dX12_take_42 ?_
          refine j_imul 45 dX12_take_45 ?_
          refine j_iload_n 46 1 dX12_take_46 rfl rfl ?_
          refine j_iast (c := 67) (n := 0) (L := 36) 47 (prs_mem (by decide) (by decide)) (by decide) rfl rfl rfl dX12_take_47 (j_bs (fun S_4 => ?_))
          refine j_aload_n 48 0 dX12_take_48 rfl rfl ?_
          refine j_getr (c2 := 67) (n2 := 0) 49 20 nX12_take_X12 rfl (by decide) (prs_mem (by decide) (by decide)) (by decide) (by decide) wX12_take_f52 (Or.inl rfl) rfl rfl rfl dX12_take_49 ?_
          refine j_iconst (v := 3) 52 dX12_take_52 (by decide) ?_
          refine j_aload_n 53 0 dX12_take_53 rfl rfl ?_
          refine j_geti 54 19 nX12_take_X12 rfl (by decide) (prs_mem (by decide) (by decide)) (by decide) (by decide) wX12_take_f217 (Or.inl rfl) rfl dX12_take_54 ?_
          refine j_imul 57 dX12_take_57 ?_
          refine j_iconst (v := 1) 58 dX12_take_58 (by decide) ?_
          refine j_iadd 59 dX12_take_59 ?_
          refine j_iload_n 60 2 dX12_take_60 rfl rfl ?_
          refine j_iast (c := 67) (n := 0) (L := 36) 61 (prs_mem (by decide) (by decide)) (by decide) rfl rfl rfl dX12_take_61 (j_bs (fun S_5 => ?_))
          refine j_aload_n 62 0 dX12_take_62 rfl rfl ?_
          refine j_getr (c2 := 67) (n2 := 0) 63 20 nX12_take_X12 rfl (by decide) (prs_mem (by decide) (by decide)) (by decide) (by decide) wX12_take_f52 (Or.inl rfl) rfl rfl rfl dX12_take_63 ?_
          refine j_iconst (v := 3) 66 dX12_take_66 (by decide) ?_
          refine j_aload_n 67 0 dX12_take_67 rfl rfl ?_
          refine j_geti 68 19 nX12_take_X12 rfl (by decide) (prs_mem (by decide) (by decide)) (by decide) (by decide) wX12_take_f217 (Or.inl rfl) rfl dX12_take_68 ?_
          refine j_imul 71 dX12_take_71 ?_
          refine j_iconst (v := 2) 72 dX12_take_72 (by decide) ?_
          refine j_iadd 73 dX12_take_73 ?_
          refine j_iload_n 74 3 dX12_take_74 rfl rfl ?_
          refine j_iast (c := 67) (n := 0) (L := 36) 75 (prs_mem (by decide) (by decide)) (by decide) rfl rfl rfl dX12_take_75 (j_bs (fun S_6 => ?_))
          refine j_aload_n 76 0 dX12_take_76 rfl rfl ?_
          refine j_dup 77 dX12_take_77 rfl ?_
          refine j_geti 78 19 nX12_take_X12 rfl (by decide) (prs_mem (by decide) (by decide)) (by decide) (by decide) wX12_take_f217 (Or.inl rfl) rfl dX12_take_78 ?_
          refine j_iconst (v := 1) 81 dX12_take_81 (by decide) ?_
          refine j_iadd 82 dX12_take_82 ?_
          refine j_puti 83 19 nX12_take_X12 rfl (by decide) (prs_mem (by decide) (by decide)) (by decide) (by decide) wX12_take_f217 (Or.inl rfl) tyX12 tyX12_ok nmX12 rfl (by decide) rfl dX12_take_83 (j_bs (fun S_7 => ?_))
          refine j_aload_n 86 0 dX12_take_86 rfl rfl ?_
          refine j_geti 87 19 nX12_take_X12 rfl (by decide) (prs_mem (by decide) (by decide)) (by decide) (by decide) wX12_take_f217 (Or.inl rfl) rfl dX12_take_87 ?_
          refine j_iconst (v := 1) 90 dX12_take_90 (by decide) ?_
          refine j_isub 91 dX12_take_91 ?_
          exact j_iret 92 rfl dX12_take_92
        · refine j_bipush (v := (-3)) 33 dX12_take_33 (by decide) ?_
          exact j_iret 35 rfl dX12_take_35
      · refine j_iconst (v := (-1)) 22 dX12_take_22 (by decide) ?_
        exact j_iret 23 rfl dX12_take_23
set_option maxRecDepth 100000 in
set_option maxHeartbeats 4000000 in
theorem kX12_take {ad : Nat → Nat → Nat} (S : St) (p1 : Int32) (p2 : Int32) (p3 : Int32) : ∀ b, fX12_take S p1 p2 p3 = some b → ∀ l dC dI cy, CT l dC dI cy ad yX12_take wsX12_take 2 46 [.ref (ad 11 0), .int p1, .int p2, .int p3] S (some (.int b.1)) b.2 :=
  fun b hb l dC dI cy => ct_of (l := l) (dC := dC) (dI := dI) (cy := cy) outei (by decide) rfl (Nat.le_of_ble_eq_true rfl) rfl (fun X γ => tX12_take X γ S p1 p2 p3) b hb
-- X12_wrongedBy
theorem nX12_wrongedBy_X12 : ∀ w ∈ u_ws RX12 TX12 40, w ∈ wsX12_wrongedBy := by decide +kernel
theorem wX12_wrongedBy_f52 : Cond.fieldLink RX12 52 "TwoTonguesModel" "takings" "[I" ∈ wsX12_wrongedBy := by decide +kernel
set_option maxRecDepth 100000 in
set_option maxHeartbeats 4000000 in
theorem tX12_wrongedBy_j49 {ad : Nat → Nat → Nat} (X : Ctx) (γ : Nat → Nat) (F : Nat) (S : St) (x1 : Int32) (s0 : Int32) (s1 : Int32)   : JJ X ad γ (RQm X ad 1 26 (outpi S)) (fcm (outpi S)) 1 26 cX12_wrongedBy 6 RX12 wsX12_wrongedBy (some .int) (fX12_wrongedBy_j49 F S x1 s0 s1) S 49 [(0, .ref (ad 11 0)), (1, .int x1)] [.int s0, .int s1] := by
  unfold fX12_wrongedBy_j49
  refine j_ior 49 dX12_wrongedBy_49 ?_
  refine j_bndi (fun x5_5 => ?_)
  refine j_istore (lv2 := [(5, .int x5_5), (0, .ref (ad 11 0)), (1, .int x1)]) 50 dX12_wrongedBy_50 (by decide) rfl ?_
  refine j_iload 52 0 dX12_wrongedBy_52 rfl ?_
  refine j_iconst (v := 1) 54 dX12_wrongedBy_54 (by decide) ?_
  refine j_aload_n 55 1 dX12_wrongedBy_55 rfl rfl ?_
  refine j_getr (c2 := 67) (n2 := 0) 56 20 nX12_wrongedBy_X12 rfl (by decide) (prs_mem (by decide) (by decide)) (by decide) (by decide) wX12_wrongedBy_f52 (Or.inl rfl) rfl rfl rfl dX12_wrongedBy_56 ?_
  refine j_iconst (v := 3) 59 dX12_wrongedBy_59 (by decide) ?_
  refine j_iload_n 60 2 dX12_wrongedBy_60 rfl rfl ?_
  refine j_imul 61 dX12_wrongedBy_61 ?_
  refine j_iconst (v := 1) 62 dX12_wrongedBy_62 (by decide) ?_
  refine j_iadd 63 dX12_wrongedBy_63 ?_
  refine j_iald (c := 67) (n := 0) (L := 36) 64 (prs_mem (by decide) (by decide)) (by decide) rfl rfl rfl dX12_wrongedBy_64 ?_
  refine j_ishl 65 dX12_wrongedBy_65 ?_
  refine j_iconst (v := (-1)) 66 dX12_wrongedBy_66 (by decide) ?_
  refine j_ixor 67 dX12_wrongedBy_67 ?_
  refine j_iand 68 dX12_wrongedBy_68 ?_
  exact j_iret 69 rfl dX12_wrongedBy_69
set_option maxRecDepth 100000 in
set_option maxHeartbeats 4000000 in
theorem tX12_wrongedBy {ad : Nat → Nat → Nat} (X : Ctx) (γ : Nat → Nat) (F : Nat) (S : St) (p1 : Int32) : JJ X ad γ (RQm X ad 1 26 (outpi S)) (fcm (outpi S)) 1 26 cX12_wrongedBy 6 RX12 wsX12_wrongedBy (some .int) (fX12_wrongedBy F S p1) S 0 [(0, .ref (ad 11 0)), (1, .int p1)] [] := by
  unfold fX12_wrongedBy
  refine j_aload_n 0 0 dX12_wrongedBy_0 rfl rfl ?_
  refine j_getr (c2 := 67) (n2 := 0) 1 20 nX12_wrongedBy_X12 rfl (by decide) (prs_mem (by decide) (by decide)) (by decide) (by decide) wX12_wrongedBy_f52 (Or.inl rfl) rfl rfl rfl dX12_wrongedBy_1 ?_
  refine j_iconst (v := 3) 4 dX12_wrongedBy_4 (by decide) ?_
  refine j_iload_n 5 1 dX12_wrongedBy_5 rfl rfl ?_
  refine j_imul 6 dX12_wrongedBy_6 ?_
  refine j_iald (c := 67) (n := 0) (L := 36) 7 (prs_mem (by decide) (by decide)) (by decide) rfl rfl rfl dX12_wrongedBy_7 ?_
  refine j_bndi (fun x2_1 => ?_)
  refine j_istore_n (lv2 := [(2, .int x2_1), (0, .ref (ad 11 0)), (1, .int p1)]) 8 dX12_wrongedBy_8 rfl (by decide) rfl ?_
  refine j_aload_n 9 1 dX12_wrongedBy_9 rfl rfl ?_
  refine j_getr (c2 := 67) (n2 := 0) 10 20 nX12_wrongedBy_X12 rfl (by decide) (prs_mem (by decide) (by decide)) (by decide) (by decide) wX12_wrongedBy_f52 (Or.inl rfl) rfl rfl rfl dX12_wrongedBy_10 ?_
  refine j_iconst (v := 3) 13 dX12_wrongedBy_13 (by decide) ?_
  refine j_iload_n 14 2 dX12_wrongedBy_14 rfl rfl ?_
  refine j_imul 15 dX12_wrongedBy_15 ?_
  refine j_iconst (v := 2) 16 dX12_wrongedBy_16 (by decide) ?_
  refine j_iadd 17 dX12_wrongedBy_17 ?_
  refine j_iald (c := 67) (n := 0) (L := 36) 18 (prs_mem (by decide) (by decide)) (by decide) rfl rfl rfl dX12_wrongedBy_18 ?_
  refine j_bndi (fun x3_2 => ?_)
  refine j_istore_n (lv2 := [(3, .int x3_2), (2, .int x2_1), (0, .ref (ad 11 0)), (1, .int p1)]) 19 dX12_wrongedBy_19 rfl (by decide) rfl ?_
  refine j_aload_n 20 2 dX12_wrongedBy_20 rfl rfl ?_
  refine j_iload_n 21 1 dX12_wrongedBy_21 rfl rfl ?_
  refine j_iload_n 22 0 dX12_wrongedBy_22 rfl rfl ?_
  refine j_iconst (v := 0) 23 dX12_wrongedBy_23 (by decide) ?_
  refine j_callV_pi 24 rfl (by decide) (prs_mem (by decide) (by decide))  [.int x2_1, .int x3_2, .int 0] [] gX12_wrongedBy_X12_heldBy rfl eX12_heldBy ⟨Nat.le_of_ble_eq_true rfl, Nat.le_of_ble_eq_true rfl⟩ rfl rfl (Nat.le_of_ble_eq_true rfl) dX12_wrongedBy_24 (kX12_heldBy F S x2_1 x3_2 0) (fun b_3 γ => ?_)
  refine j_istore (lv2 := [(4, .int b_3), (3, .int x3_2), (2, .int x2_1), (0, .ref (ad 11 0)), (1, .int p1)]) 27 dX12_wrongedBy_27 (by decide) rfl ?_
  refine j_aload_n 29 3 dX12_wrongedBy_29 rfl rfl ?_
  refine j_iload_n 30 2 dX12_wrongedBy_30 rfl rfl ?_
  refine j_iload_n 31 1 dX12_wrongedBy_31 rfl rfl ?_
  refine j_iconst (v := 1) 32 dX12_wrongedBy_32 (by decide) ?_
  refine j_callV_pi 33 rfl (by decide) (prs_mem (by decide) (by decide))  [.int x2_1, .int x3_2, .int 1] [] gX12_wrongedBy_X12_heldBy rfl eX12_heldBy ⟨Nat.le_of_ble_eq_true rfl, Nat.le_of_ble_eq_true rfl⟩ rfl rfl (Nat.le_of_ble_eq_true rfl) dX12_wrongedBy_33 (kX12_heldBy F S x2_1 x3_2 1) (fun b_4 γ => ?_)
  refine j_iload 36 0 dX12_wrongedBy_36 rfl ?_
  refine j_if_ge 38 45 dX12_wrongedBy_38 (by decide) (fun _ => ?_) (fun _ => ?_)
  · refine j_iconst (v := 1) 45 dX12_wrongedBy_45 (by decide) ?_
    refine j_iload 46 0 dX12_wrongedBy_46 rfl ?_
    refine j_ishl 48 dX12_wrongedBy_48 ?_
    refine j_sub [3, 4] rfl ?_
    exact tX12_wrongedBy_j49 X _ F S p1 ((1 : Int32) <<< (b_3 &&& 31)) b_4
  · refine j_iconst (v := 0) 41 dX12_wrongedBy_41 (by decide) ?_
    refine j_goto 42 49 dX12_wrongedBy_42 (by decide) ?_
    refine j_sub [3, 4] rfl ?_
    exact tX12_wrongedBy_j49 X _ F S p1 0 b_4
set_option maxRecDepth 100000 in
set_option maxHeartbeats 4000000 in
theorem kX12_wrongedBy {ad : Nat → Nat → Nat} (F : Nat) (S : St) (p1 : Int32) : ∀ b, fX12_wrongedBy F S p1 = some b → ∀ l dC dI cy, CT l dC dI cy ad yX12_wrongedBy wsX12_wrongedBy 1 26 [.ref (ad 11 0), .int p1] S (some (.int b)) S :=
  fun b hb l dC dI cy => ct_of (l := l) (dC := dC) (dI := dI) (cy := cy) (outpi S) (by decide) rfl (Nat.le_of_ble_eq_true rfl) rfl (fun X γ => tX12_wrongedBy X γ F S p1) b hb
