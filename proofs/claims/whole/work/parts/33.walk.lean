-- X10_meaningOf
theorem nX10_meaningOf_X3 : ∀ w ∈ u_ws RX3 TX3 6, w ∈ wsX10_meaningOf := by decide +kernel
theorem nX10_meaningOf_X10 : ∀ w ∈ u_ws RX10 TX10 8, w ∈ wsX10_meaningOf := by decide +kernel
theorem wX10_meaningOf_f38 : Cond.fieldLink RX10 38 "TwoTongues$Tongue" "told" "I" ∈ wsX10_meaningOf := by decide +kernel
theorem wX10_meaningOf_f9 : Cond.fieldLink RX10 9 "TwoTongues$Tongue" "toldWord" "[I" ∈ wsX10_meaningOf := by decide +kernel
theorem wX10_meaningOf_f15 : Cond.fieldLink RX10 15 "TwoTongues$Tongue" "toldYear" "[I" ∈ wsX10_meaningOf := by decide +kernel
theorem wX10_meaningOf_stX11_within : Cond.static yX11_within ∈ wsX10_meaningOf := by decide +kernel
theorem wX10_meaningOf_inX11_within : Cond.initialized yX11_within.cls ∈ wsX10_meaningOf := by decide +kernel
theorem wX10_meaningOf_f18 : Cond.fieldLink RX10 18 "TwoTongues$Tongue" "toldVerbs" "[I" ∈ wsX10_meaningOf := by decide +kernel
theorem wX10_meaningOf_f46 : Cond.fieldLink RX10 46 "TwoTongues$Tongue" "items" "I" ∈ wsX10_meaningOf := by decide +kernel
theorem wX10_meaningOf_f30 : Cond.fieldLink RX10 30 "TwoTongues$Tongue" "inForce" "[LTwoTongues$Item;" ∈ wsX10_meaningOf := by decide +kernel
theorem wX10_meaningOf_f64 : Cond.fieldLink RX10 64 "TwoTongues$Item" "word" "I" ∈ wsX10_meaningOf := by decide +kernel
theorem wX10_meaningOf_f67 : Cond.fieldLink RX10 67 "TwoTongues$Item" "from" "I" ∈ wsX10_meaningOf := by decide +kernel
theorem wX10_meaningOf_f70 : Cond.fieldLink RX10 70 "TwoTongues$Item" "set" "I" ∈ wsX10_meaningOf := by decide +kernel
set_option maxRecDepth 100000 in
set_option maxHeartbeats 4000000 in
theorem tX10_meaningOf_L8 {ad : Nat → Nat → Nat} (X : Ctx) (F : Nat) (S : St) (t : Nat) (x1 : Int32) (x2 : Int32) (k67 : Int32 → Int32 → Option Int32) (ht : t < 2) (hk67 : ∀ (γ : Nat → Nat) (x3 : Int32) (x4 : Int32), JJ X ad γ (RQm X ad 1 22 (outpi S)) (fcm (outpi S)) 1 22 cX10_meaningOf 7 RX10 wsX10_meaningOf (some .int) (k67 x3 x4) S 67 [(0, .ref (ad 9 t)), (1, .int x1), (2, .int x2), (3, .int x3), (4, .int x4)] []) : ∀ (n : Nat) (γ : Nat → Nat) (x3 : Int32) (x4 : Int32) (x5 : Int32), JJ X ad γ (RQm X ad 1 22 (outpi S)) (fcm (outpi S)) 1 22 cX10_meaningOf 7 RX10 wsX10_meaningOf (some .int) (fX10_meaningOf_L8 F S t x1 x2 k67 n x3 x4 x5) S 8 [(0, .ref (ad 9 t)), (1, .int x1), (2, .int x2), (3, .int x3), (4, .int x4), (5, .int x5)] [] := by
  intro n
  induction n with
  | zero => intro _ _ _ _; exact j_none
  | succ n ih =>
    intro γ x3 x4 x5
    rw [show fX10_meaningOf_L8 F S t x1 x2 k67 (n + 1) x3 x4 x5 = fX10_meaningOf_b8 F S t x1 x2 k67 (fX10_meaningOf_L8 F S t x1 x2 k67 n) x3 x4 x5 from rfl]
    unfold fX10_meaningOf_b8
    refine j_iload 8 5 dX10_meaningOf_8 rfl ?_
    refine j_aload_n 10 0 dX10_meaningOf_10 rfl rfl ?_
    refine j_geti 11 3 nX10_meaningOf_X10 rfl (by decide) (prs_mem (by decide) ht) (by decide) (by decide) wX10_meaningOf_f38 (Or.inl rfl) rfl dX10_meaningOf_11 ?_
    refine j_icmp_ge 14 67 dX10_meaningOf_14 (by decide) (fun _ => ?_) (fun _ => ?_)
    · refine j_sub [0, 1, 2, 3, 4] rfl ?_
      exact hk67 _ x3 x4
    · refine j_aload_n 17 0 dX10_meaningOf_17 rfl rfl ?_
      refine j_getr (c2 := 48) (n2 := t) 18 0 nX10_meaningOf_X10 rfl (by decide) (prs_mem (by decide) ht) (by decide) (by decide) wX10_meaningOf_f9 (Or.inl rfl) rfl rfl (n01 _) dX10_meaningOf_18 ?_
      refine j_iload 21 5 dX10_meaningOf_21 rfl ?_
      refine j_iald (c := 48) (n := t) (L := 20) 23 (prs_mem (by decide) ht) (by decide) rfl rfl rfl dX10_meaningOf_23 ?_
      refine j_iload_n 24 1 dX10_meaningOf_24 rfl rfl ?_
      refine j_icmp_ne 25 61 dX10_meaningOf_25 (by decide) (fun _ => ?_) (fun _ => ?_)
      · refine j_iinc (v := x5 + 1) (lv2 := [(5, .int (x5 + 1)), (0, .ref (ad 9 t)), (1, .int x1), (2, .int x2), (3, .int x3), (4, .int x4)]) 61 5 dX10_meaningOf_61 rfl rfl (by decide) rfl ?_
        refine j_goto 64 8 dX10_meaningOf_64 (by decide) ?_
        refine j_sub [1, 2, 3, 4, 5, 0] rfl ?_
        exact ih _ x3 x4 (x5 + 1)
      · refine j_aload_n 28 0 dX10_meaningOf_28 rfl rfl ?_
        refine j_getr (c2 := 49) (n2 := t) 29 1 nX10_meaningOf_X10 rfl (by decide) (prs_mem (by decide) ht) (by decide) (by decide) wX10_meaningOf_f15 (Or.inl rfl) rfl rfl (n01 _) dX10_meaningOf_29 ?_
        refine j_iload 32 5 dX10_meaningOf_32 rfl ?_
        refine j_iald (c := 49) (n := t) (L := 20) 34 (prs_mem (by decide) ht) (by decide) rfl rfl rfl dX10_meaningOf_34 ?_
        refine j_iload 35 4 dX10_meaningOf_35 rfl ?_
        refine j_iload_n 37 2 dX10_meaningOf_37 rfl rfl ?_
        refine j_callSN_pi 38  [.int (gA S 49 t x5.toNatClampNeg), .int x4, .int x2] [] (host := "TwoTongues") gX10_meaningOf_X11_within_n56 rfl (by decide +kernel) wX10_meaningOf_stX11_within wX10_meaningOf_inX11_within eX11_within ⟨Nat.le_of_ble_eq_true rfl, Nat.le_of_ble_eq_true rfl⟩ rfl rfl (Nat.le_of_ble_eq_true rfl) dX10_meaningOf_38 (kX11_within S (gA S 49 t x5.toNatClampNeg) x4 x2) (fun b_1 γ => ?_)
        refine j_if_eq 41 61 dX10_meaningOf_41 (by decide) (fun _ => ?_) (fun _ => ?_)
        · refine j_iinc (v := x5 + 1) (lv2 := [(5, .int (x5 + 1)), (0, .ref (ad 9 t)), (1, .int x1), (2, .int x2), (3, .int x3), (4, .int x4)]) 61 5 dX10_meaningOf_61 rfl rfl (by decide) rfl ?_
          refine j_goto 64 8 dX10_meaningOf_64 (by decide) ?_
          refine j_sub [1, 2, 3, 4, 5, 0] rfl ?_
          exact ih _ x3 x4 (x5 + 1)
        · refine j_aload_n 44 0 dX10_meaningOf_44 rfl rfl ?_
          refine j_getr (c2 := 49) (n2 := t) 45 1 nX10_meaningOf_X10 rfl (by decide) (prs_mem (by decide) ht) (by decide) (by decide) wX10_meaningOf_f15 (Or.inl rfl) rfl rfl (n01 _) dX10_meaningOf_45 ?_
          refine j_iload 48 5 dX10_meaningOf_48 rfl ?_
          refine j_iald (c := 49) (n := t) (L := 20) 50 (prs_mem (by decide) ht) (by decide) rfl rfl rfl dX10_meaningOf_50 ?_
          refine j_bndi (fun x4_2 => ?_)
          refine j_istore (lv2 := [(4, .int x4_2), (0, .ref (ad 9 t)), (1, .int x1), (2, .int x2), (3, .int x3), (5, .int x5)]) 51 dX10_meaningOf_51 (by decide) rfl ?_
          refine j_aload_n 53 1 dX10_meaningOf_53 rfl rfl ?_
          refine j_getr (c2 := 50) (n2 := t) 54 2 nX10_meaningOf_X10 rfl (by decide) (prs_mem (by decide) ht) (by decide) (by decide) wX10_meaningOf_f18 (Or.inl rfl) rfl rfl (n01 _) dX10_meaningOf_54 ?_
          refine j_iload 57 5 dX10_meaningOf_57 rfl ?_
          refine j_iald (c := 50) (n := t) (L := 20) 59 (prs_mem (by decide) ht) (by decide) rfl rfl rfl dX10_meaningOf_59 ?_
          refine j_bndi (fun x3_3 => ?_)
          refine j_istore_n (lv2 := [(3, .int x3_3), (4, .int x4_2), (0, .ref (ad 9 t)), (1, .int x1), (2, .int x2), (5, .int x5)]) 60 dX10_meaningOf_60 rfl (by decide) rfl ?_
          refine j_iinc (v := x5 + 1) (lv2 := [(5, .int (x5 + 1)), (3, .int x3_3), (4, .int x4_2), (0, .ref (ad 9 t)), (1, .int x1), (2, .int x2)]) 61 5 dX10_meaningOf_61 rfl rfl (by decide) rfl ?_
          refine j_goto 64 8 dX10_meaningOf_64 (by decide) ?_
          refine j_sub [3, 4, 5, 1, 2, 0] rfl ?_
          exact ih _ x3_3 x4_2 (x5 + 1)
set_option maxRecDepth 100000 in
set_option maxHeartbeats 4000000 in
theorem tX10_meaningOf_L70 {ad : Nat → Nat → Nat} (X : Ctx) (F : Nat) (S : St) (t : Nat) (x1 : Int32) (x2 : Int32) (ht : t < 2)  : ∀ (n : Nat) (γ : Nat → Nat) (x3 : Int32) (x4 : Int32) (x5 : Int32), JJ X ad γ (RQm X ad 1 22 (outpi S)) (fcm (outpi S)) 1 22 cX10_meaningOf 7 RX10 wsX10_meaningOf (some .int) (fX10_meaningOf_L70 F S t x1 x2 n x3 x4 x5) S 70 [(0, .ref (ad 9 t)), (1, .int x1), (2, .int x2), (3, .int x3), (4, .int x4), (5, .int x5)] [] := by
  intro n
  induction n with
  | zero => intro _ _ _ _; exact j_none
  | succ n ih =>
    intro γ x3 x4 x5
    rw [show fX10_meaningOf_L70 F S t x1 x2 (n + 1) x3 x4 x5 = fX10_meaningOf_b70 F S t x1 x2 (fX10_meaningOf_L70 F S t x1 x2 n) x3 x4 x5 from rfl]
    unfold fX10_meaningOf_b70
    refine j_iload 70 5 dX10_meaningOf_70 rfl ?_
    refine j_aload_n 72 0 dX10_meaningOf_72 rfl rfl ?_
    refine j_geti 73 6 nX10_meaningOf_X10 rfl (by decide) (prs_mem (by decide) ht) (by decide) (by decide) wX10_meaningOf_f46 (Or.inl rfl) rfl dX10_meaningOf_73 ?_
    refine j_icmp_ge 76 138 dX10_meaningOf_76 (by decide) (fun _ => ?_) (fun _ => ?_)
    · refine j_iload_n 138 3 dX10_meaningOf_138 rfl rfl ?_
      exact j_iret 139 rfl dX10_meaningOf_139
    · refine j_aload_n 79 0 dX10_meaningOf_79 rfl rfl ?_
      refine j_getr (c2 := 51) (n2 := t) 80 5 nX10_meaningOf_X10 rfl (by decide) (prs_mem (by decide) ht) (by decide) (by decide) wX10_meaningOf_f30 (Or.inl rfl) rfl rfl (n01 _) dX10_meaningOf_80 ?_
      refine j_iload 83 5 dX10_meaningOf_83 rfl ?_
      refine j_aald (c := 51) (n := t) (L := 34) 85 (prs_mem (by decide) ht) (by decide) rfl rfl rfl dX10_meaningOf_85 (fun hi_85 => ?_)
      refine j_astore (lv2 := [(6, .ref (ad 3 (34 * t + x5.toNatClampNeg))), (0, .ref (ad 9 t)), (1, .int x1), (2, .int x2), (3, .int x3), (4, .int x4), (5, .int x5)]) 86 dX10_meaningOf_86 (by decide) rfl ?_
      refine j_aload 88 0 dX10_meaningOf_88 rfl ?_
      refine j_callV_pi 90 rfl (by decide) (prs_mem (by decide) (it_ok ht hi_85))  [] [] gX10_meaningOf_X3_isBook rfl eX3_isBook ⟨Nat.le_of_ble_eq_true rfl, Nat.le_of_ble_eq_true rfl⟩ rfl rfl (Nat.le_of_ble_eq_true rfl) dX10_meaningOf_90 (kX3_isBook S (34 * t + x5.toNatClampNeg)) (fun b_6 γ => ?_)
      refine j_if_eq 93 132 dX10_meaningOf_93 (by decide) (fun _ => ?_) (fun _ => ?_)
      · refine j_iinc (v := x5 + 1) (lv2 := [(5, .int (x5 + 1)), (6, .ref (ad 3 (34 * t + x5.toNatClampNeg))), (0, .ref (ad 9 t)), (1, .int x1), (2, .int x2), (3, .int x3), (4, .int x4)]) 132 6 dX10_meaningOf_132 rfl rfl (by decide) rfl ?_
        refine j_goto 135 70 dX10_meaningOf_135 (by decide) ?_
        refine j_sub [2, 3, 4, 5, 6, 0] rfl ?_
        exact ih _ x3 x4 (x5 + 1)
      · refine j_aload 96 0 dX10_meaningOf_96 rfl ?_
        refine j_geti 98 1 nX10_meaningOf_X3 rfl (by decide) (prs_mem (by decide) (it_ok ht hi_85)) (by decide) (by decide) wX10_meaningOf_f64 (Or.inl rfl) rfl dX10_meaningOf_98 ?_
        refine j_iload_n 101 2 dX10_meaningOf_101 rfl rfl ?_
        refine j_icmp_ne 102 132 dX10_meaningOf_102 (by decide) (fun _ => ?_) (fun _ => ?_)
        · refine j_iinc (v := x5 + 1) (lv2 := [(5, .int (x5 + 1)), (6, .ref (ad 3 (34 * t + x5.toNatClampNeg))), (0, .ref (ad 9 t)), (1, .int x1), (2, .int x2), (3, .int x3), (4, .int x4)]) 132 6 dX10_meaningOf_132 rfl rfl (by decide) rfl ?_
          refine j_goto 135 70 dX10_meaningOf_135 (by decide) ?_
          refine j_sub [2, 3, 4, 5, 6, 0] rfl ?_
          exact ih _ x3 x4 (x5 + 1)
        · refine j_aload 105 0 dX10_meaningOf_105 rfl ?_
          refine j_geti 107 3 nX10_meaningOf_X3 rfl (by decide) (prs_mem (by decide) (it_ok ht hi_85)) (by decide) (by decide) wX10_meaningOf_f67 (Or.inl rfl) rfl dX10_meaningOf_107 ?_
          refine j_iload 110 5 dX10_meaningOf_110 rfl ?_
          refine j_iload_n 112 3 dX10_meaningOf_112 rfl rfl ?_
          refine j_callSN_pi 113  [.int (gI S 3 (34 * t + x5.toNatClampNeg) 3), .int x4, .int x2] [] (host := "TwoTongues") gX10_meaningOf_X11_within_n56 rfl (by decide +kernel) wX10_meaningOf_stX11_within wX10_meaningOf_inX11_within eX11_within ⟨Nat.le_of_ble_eq_true rfl, Nat.le_of_ble_eq_true rfl⟩ rfl rfl (Nat.le_of_ble_eq_true rfl) dX10_meaningOf_113 (kX11_within S (gI S 3 (34 * t + x5.toNatClampNeg) 3) x4 x2) (fun b_7 γ => ?_)
          refine j_if_eq 116 132 dX10_meaningOf_116 (by decide) (fun _ => ?_) (fun _ => ?_)
          · refine j_iinc (v := x5 + 1) (lv2 := [(5, .int (x5 + 1)), (6, .ref (ad 3 (34 * t + x5.toNatClampNeg))), (0, .ref (ad 9 t)), (1, .int x1), (2, .int x2), (3, .int x3), (4, .int x4)]) 132 6 dX10_meaningOf_132 rfl rfl (by decide) rfl ?_
            refine j_goto 135 70 dX10_meaningOf_135 (by decide) ?_
            refine j_sub [2, 3, 4, 5, 6, 0] rfl ?_
            exact ih _ x3 x4 (x5 + 1)
          · refine j_aload 119 0 dX10_meaningOf_119 rfl ?_
            refine j_geti 121 3 nX10_meaningOf_X3 rfl (by decide) (prs_mem (by decide) (it_ok ht hi_85)) (by decide) (by decide) wX10_meaningOf_f67 (Or.inl rfl) rfl dX10_meaningOf_121 ?_
            refine j_bndi (fun x4_8 => ?_)
            refine j_istore (lv2 := [(4, .int x4_8), (6, .ref (ad 3 (34 * t + x5.toNatClampNeg))), (0, .ref (ad 9 t)), (1, .int x1), (2, .int x2), (3, .int x3), (5, .int x5)]) 124 dX10_meaningOf_124 (by decide) rfl ?_
            refine j_aload 126 1 dX10_meaningOf_126 rfl ?_
            refine j_geti 128 5 nX10_meaningOf_X3 rfl (by decide) (prs_mem (by decide) (it_ok ht hi_85)) (by decide) (by decide) wX10_meaningOf_f70 (Or.inl rfl) rfl dX10_meaningOf_128 ?_
            refine j_bndi (fun x3_9 => ?_)
            refine j_istore_n (lv2 := [(3, .int x3_9), (4, .int x4_8), (6, .ref (ad 3 (34 * t + x5.toNatClampNeg))), (0, .ref (ad 9 t)), (1, .int x1), (2, .int x2), (5, .int x5)]) 131 dX10_meaningOf_131 rfl (by decide) rfl ?_
            refine j_iinc (v := x5 + 1) (lv2 := [(5, .int (x5 + 1)), (3, .int x3_9), (4, .int x4_8), (6, .ref (ad 3 (34 * t + x5.toNatClampNeg))), (0, .ref (ad 9 t)), (1, .int x1), (2, .int x2)]) 132 6 dX10_meaningOf_132 rfl rfl (by decide) rfl ?_
            refine j_goto 135 70 dX10_meaningOf_135 (by decide) ?_
            refine j_sub [4, 5, 6, 1, 2, 0] rfl ?_
            exact ih _ x3_9 x4_8 (x5 + 1)
set_option maxRecDepth 100000 in
set_option maxHeartbeats 4000000 in
theorem tX10_meaningOf {ad : Nat → Nat → Nat} (X : Ctx) (γ : Nat → Nat) (F : Nat) (S : St) (t : Nat) (p1 : Int32) (p2 : Int32) : JJ X ad γ (RQm X ad 1 22 (outpi S)) (fcm (outpi S)) 1 22 cX10_meaningOf 7 RX10 wsX10_meaningOf (some .int) (fX10_meaningOf F S t p1 p2) S 0 [(0, .ref (ad 9 t)), (1, .int p1), (2, .int p2)] [] := by
  unfold fX10_meaningOf
  refine j_gd (fun ht => ?_)
  have ht := of_decide_eq_true ht
  refine j_iconst (v := 0) 0 dX10_meaningOf_0 (by decide) ?_
  refine j_istore_n (lv2 := [(3, .int 0), (0, .ref (ad 9 t)), (1, .int p1), (2, .int p2)]) 1 dX10_meaningOf_1 rfl (by decide) rfl ?_
  refine j_iconst (v := 0) 2 dX10_meaningOf_2 (by decide) ?_
  refine j_istore (lv2 := [(4, .int 0), (3, .int 0), (0, .ref (ad 9 t)), (1, .int p1), (2, .int p2)]) 3 dX10_meaningOf_3 (by decide) rfl ?_
  refine j_iconst (v := 0) 5 dX10_meaningOf_5 (by decide) ?_
  refine j_istore (lv2 := [(5, .int 0), (4, .int 0), (3, .int 0), (0, .ref (ad 9 t)), (1, .int p1), (2, .int p2)]) 6 dX10_meaningOf_6 (by decide) rfl ?_
  refine j_sub [3, 4, 5, 2, 1, 0] rfl ?_
  refine tX10_meaningOf_L8 X F S t p1 p2 _ ht (fun γ x3_4 x4_5 => ?_) F _ 0 0 0
  refine j_iconst (v := 0) 67 dX10_meaningOf_67 (by decide) ?_
  refine j_istore (lv2 := [(5, .int 0), (0, .ref (ad 9 t)), (1, .int p1), (2, .int p2), (3, .int x3_4), (4, .int x4_5)]) 68 dX10_meaningOf_68 (by decide) rfl ?_
  refine j_sub [1, 2, 3, 4, 5, 0] rfl ?_
  exact tX10_meaningOf_L70 X F S t p1 p2 ht F _ x3_4 x4_5 0
set_option maxRecDepth 100000 in
set_option maxHeartbeats 4000000 in
theorem kX10_meaningOf {ad : Nat → Nat → Nat} (F : Nat) (S : St) (t : Nat) (p1 : Int32) (p2 : Int32) : ∀ b, fX10_meaningOf F S t p1 p2 = some b → ∀ l dC dI cy, CT l dC dI cy ad yX10_meaningOf wsX10_meaningOf 1 22 [.ref (ad 9 t), .int p1, .int p2] S (some (.int b)) S :=
  fun b hb l dC dI cy => ct_of (l := l) (dC := dC) (dI := dI) (cy := cy) (outpi S) (by decide) rfl (Nat.le_of_ble_eq_true rfl) rfl (fun X γ => tX10_meaningOf X γ F S t p1 p2) b hb
-- X10_learn
theorem nX10_learn_X10 : ∀ w ∈ u_ws RX10 TX10 8, w ∈ wsX10_learn := by decide +kernel
theorem wX10_learn_f34 : Cond.fieldLink RX10 34 "TwoTongues$Tongue" "meaning" "[I" ∈ wsX10_learn := by decide +kernel
set_option maxRecDepth 100000 in
set_option maxHeartbeats 4000000 in
theorem tX10_learn_L2 {ad : Nat → Nat → Nat} (X : Ctx) (F : Nat) (t : Nat) (x1 : Int32) (ht : t < 2)  : ∀ (n : Nat) (γ : Nat → Nat) (x2 : Int32) (S : St), JJ X ad γ (RQm X ad 2 48 outev) (fcm outev) 2 48 cX10_learn 3 RX10 wsX10_learn none (fX10_learn_L2 F t x1 n x2 S) S 2 [(0, .ref (ad 9 t)), (1, .int x1), (2, .int x2)] [] := by
  intro n
  induction n with
  | zero => intro _ _ _; exact j_none
  | succ n ih =>
    intro γ x2 S
    rw [show fX10_learn_L2 F t x1 (n + 1) x2 S = fX10_learn_b2 F t x1 (fX10_learn_L2 F t x1 n) x2 S from rfl]
    unfold fX10_learn_b2
    refine j_iload_n 2 2 dX10_learn_2 rfl rfl ?_
    refine j_bipush (v := 8) 3 dX10_learn_3 (by decide) ?_
    refine j_icmp_ge 5 26 dX10_learn_5 (by decide) (fun _ => ?_) (fun _ => ?_)
    · exact j_vret 26 rfl dX10_learn_26
    · refine j_aload_n 8 0 dX10_learn_8 rfl rfl ?_
      refine j_getr (c2 := 52) (n2 := t) 9 7 nX10_learn_X10 rfl (by decide) (prs_mem (by decide) ht) (by decide) (by decide) wX10_learn_f34 (Or.inl rfl) rfl rfl (n01 _) dX10_learn_9 ?_
      refine j_iload_n 12 2 dX10_learn_12 rfl rfl ?_
      refine j_aload_n 13 0 dX10_learn_13 rfl rfl ?_
      refine j_iload_n 14 2 dX10_learn_14 rfl rfl ?_
      refine j_iload_n 15 1 dX10_learn_15 rfl rfl ?_
      refine j_callV_pi 16 rfl (by decide) (prs_mem (by decide) ht)  [.int x2, .int x1] [.int x2, .ref (ad 52 t)] gX10_learn_X10_meaningOf rfl eX10_meaningOf ⟨Nat.le_of_ble_eq_true rfl, Nat.le_of_ble_eq_true rfl⟩ rfl rfl (Nat.le_of_ble_eq_true rfl) dX10_learn_16 (kX10_meaningOf F S t x2 x1) (fun b_1 γ => ?_)
      refine j_iast (c := 52) (n := t) (L := 8) 19 (prs_mem (by decide) ht) (by decide) rfl rfl rfl dX10_learn_19 (j_bs (fun S_2 => ?_))
      refine j_iinc (v := x2 + 1) (lv2 := [(2, .int (x2 + 1)), (0, .ref (ad 9 t)), (1, .int x1)]) 20 2 dX10_learn_20 rfl rfl (by decide) rfl ?_
      refine j_goto 23 2 dX10_learn_23 (by decide) ?_
      refine j_sub [1, 2, 0] rfl ?_
      exact ih _ (x2 + 1) S_2
set_option maxRecDepth 100000 in
set_option maxHeartbeats 4000000 in
theorem tX10_learn {ad : Nat → Nat → Nat} (X : Ctx) (γ : Nat → Nat) (F : Nat) (S : St) (t : Nat) (p1 : Int32) : JJ X ad γ (RQm X ad 2 48 outev) (fcm outev) 2 48 cX10_learn 3 RX10 wsX10_learn none (fX10_learn F S t p1) S 0 [(0, .ref (ad 9 t)), (1, .int p1)] [] := by
  unfold fX10_learn
  refine j_gd (fun ht => ?_)
  have ht := of_decide_eq_true ht
  refine j_iconst (v := 0) 0 dX10_learn_0 (by decide) ?_
  refine j_istore_n (lv2 := [(2, .int 0), (0, .ref (ad 9 t)), (1, .int p1)]) 1 dX10_learn_1 rfl (by decide) rfl ?_
  refine j_sub [1, 2, 0] rfl ?_
  exact tX10_learn_L2 X F t p1 ht F _ 0 S
set_option maxRecDepth 100000 in
set_option maxHeartbeats 4000000 in
theorem kX10_learn {ad : Nat → Nat → Nat} (F : Nat) (S : St) (t : Nat) (p1 : Int32) : ∀ b, fX10_learn F S t p1 = some b → ∀ l dC dI cy, CT l dC dI cy ad yX10_learn wsX10_learn 2 48 [.ref (ad 9 t), .int p1] S (none) b :=
  fun b hb l dC dI cy => ct_of (l := l) (dC := dC) (dI := dI) (cy := cy) outev (by decide) rfl (Nat.le_of_ble_eq_true rfl) rfl (fun X γ => tX10_learn X γ F S t p1) b hb
-- X10_ruling
theorem nX10_ruling_X3 : ∀ w ∈ u_ws RX3 TX3 6, w ∈ wsX10_ruling := by decide +kernel
theorem nX10_ruling_X10 : ∀ w ∈ u_ws RX10 TX10 8, w ∈ wsX10_ruling := by decide +kernel
theorem wX10_ruling_f46 : Cond.fieldLink RX10 46 "TwoTongues$Tongue" "items" "I" ∈ wsX10_ruling := by decide +kernel
theorem wX10_ruling_f30 : Cond.fieldLink RX10 30 "TwoTongues$Tongue" "inForce" "[LTwoTongues$Item;" ∈ wsX10_ruling := by decide +kernel
theorem wX10_ruling_f34 : Cond.fieldLink RX10 34 "TwoTongues$Tongue" "meaning" "[I" ∈ wsX10_ruling := by decide +kernel
theorem wX10_ruling_f64 : Cond.fieldLink RX10 64 "TwoTongues$Item" "word" "I" ∈ wsX10_ruling := by decide +kernel
theorem wX10_ruling_stX11_hasBit : Cond.static yX11_hasBit ∈ wsX10_ruling := by decide +kernel
theorem wX10_ruling_inX11_hasBit : Cond.initialized yX11_hasBit.cls ∈ wsX10_ruling := by decide +kernel
theorem wX10_ruling_f70 : Cond.fieldLink RX10 70 "TwoTongues$Item" "set" "I" ∈ wsX10_ruling := by decide +kernel
set_option maxRecDepth 100000 in
set_option maxHeartbeats 4000000 in
theorem tX10_ruling_L8 {ad : Nat → Nat → Nat} (X : Ctx) (F : Nat) (S : St) (t : Nat) (x1 : Int32) (x2 : Int32) (x3 : Int32) (x4 : Int32) (ht : t < 2)  : ∀ (n : Nat) (γ : Nat → Nat) (x5 : Int32), JJ X ad γ (RQm X ad 2 44 (outpi S)) (fcm (outpi S)) 2 44 cX10_ruling 7 RX10 wsX10_ruling (some .int) (fX10_ruling_L8 F S t x1 x2 x3 x4 n x5) S 8 [(0, .ref (ad 9 t)), (1, .int x1), (2, .int x2), (3, .int x3), (4, .int x4), (5, .int x5)] [] := by
  intro n
  induction n with
  | zero => intro _ _; exact j_none
  | succ n ih =>
    intro γ x5
    rw [show fX10_ruling_L8 F S t x1 x2 x3 x4 (n + 1) x5 = fX10_ruling_b8 F S t x1 x2 x3 x4 (fX10_ruling_L8 F S t x1 x2 x3 x4 n) x5 from rfl]
    unfold fX10_ruling_b8
    refine j_iload 8 5 dX10_ruling_8 rfl ?_
    refine j_if_lt 10 71 dX10_ruling_10 (by decide) (fun _ => ?_) (fun _ => ?_)
    · refine j_bipush (v := (-4)) 71 dX10_ruling_71 (by decide) ?_
      exact j_iret 73 rfl dX10_ruling_73
    · refine j_aload_n 13 0 dX10_ruling_13 rfl rfl ?_
      refine j_getr (c2 := 51) (n2 := t) 14 5 nX10_ruling_X10 rfl (by decide) (prs_mem (by decide) ht) (by decide) (by decide) wX10_ruling_f30 (Or.inl rfl) rfl rfl (n01 _) dX10_ruling_14 ?_
      refine j_iload 17 5 dX10_ruling_17 rfl ?_
      refine j_aald (c := 51) (n := t) (L := 34) 19 (prs_mem (by decide) ht) (by decide) rfl rfl rfl dX10_ruling_19 (fun hi_19 => ?_)
      refine j_astore (lv2 := [(6, .ref (ad 3 (34 * t + x5.toNatClampNeg))), (0, .ref (ad 9 t)), (1, .int x1), (2, .int x2), (3, .int x3), (4, .int x4), (5, .int x5)]) 20 dX10_ruling_20 (by decide) rfl ?_
      refine j_aload 22 0 dX10_ruling_22 rfl ?_
      refine j_iload_n 24 3 dX10_ruling_24 rfl rfl ?_
      refine j_iload_n 25 4 dX10_ruling_25 rfl rfl ?_
      refine j_callV_pi 26 rfl (by decide) (prs_mem (by decide) (it_ok ht hi_19))  [.int x2, .int x3] [] gX10_ruling_X3_speaksOf rfl eX3_speaksOf ⟨Nat.le_of_ble_eq_true rfl, Nat.le_of_ble_eq_true rfl⟩ rfl rfl (Nat.le_of_ble_eq_true rfl) dX10_ruling_26 (kX3_speaksOf S (34 * t + x5.toNatClampNeg) x2 x3) (fun b_2 γ => ?_)
      refine j_if_eq 29 65 dX10_ruling_29 (by decide) (fun _ => ?_) (fun _ => ?_)
      · refine j_iinc (v := x5 + (-1)) (lv2 := [(5, .int (x5 + (-1))), (6, .ref (ad 3 (34 * t + x5.toNatClampNeg))), (0, .ref (ad 9 t)), (1, .int x1), (2, .int x2), (3, .int x3), (4, .int x4)]) 65 6 dX10_ruling_65 rfl rfl (by decide) rfl ?_
        refine j_goto 68 8 dX10_ruling_68 (by decide) ?_
        refine j_sub [2, 3, 4, 5, 6, 0] rfl ?_
        exact ih _ (x5 + (-1))
      · refine j_aload_n 32 1 dX10_ruling_32 rfl rfl ?_
        refine j_getr (c2 := 52) (n2 := t) 33 7 nX10_ruling_X10 rfl (by decide) (prs_mem (by decide) ht) (by decide) (by decide) wX10_ruling_f34 (Or.inl rfl) rfl rfl (n01 _) dX10_ruling_33 ?_
        refine j_aload 36 0 dX10_ruling_36 rfl ?_
        refine j_geti 38 1 nX10_ruling_X3 rfl (by decide) (prs_mem (by decide) (it_ok ht hi_19)) (by decide) (by decide) wX10_ruling_f64 (Or.inl rfl) rfl dX10_ruling_38 ?_
        refine j_iald (c := 52) (n := t) (L := 8) 41 (prs_mem (by decide) ht) (by decide) rfl rfl rfl dX10_ruling_41 ?_
        refine j_iload_n 42 2 dX10_ruling_42 rfl rfl ?_
        refine j_callSN_pi 43  [.int (gA S 52 t (gI S 3 (34 * t + x5.toNatClampNeg) 1).toNatClampNeg), .int x1] [] (host := "TwoTongues") gX10_ruling_X11_hasBit_n81 rfl (by decide +kernel) wX10_ruling_stX11_hasBit wX10_ruling_inX11_hasBit eX11_hasBit ⟨Nat.le_of_ble_eq_true rfl, Nat.le_of_ble_eq_true rfl⟩ rfl rfl (Nat.le_of_ble_eq_true rfl) dX10_ruling_43 (kX11_hasBit S (gA S 52 t (gI S 3 (34 * t + x5.toNatClampNeg) 1).toNatClampNeg) x1) (fun b_3 γ => ?_)
        refine j_if_eq 46 65 dX10_ruling_46 (by decide) (fun _ => ?_) (fun _ => ?_)
        · refine j_iinc (v := x5 + (-1)) (lv2 := [(5, .int (x5 + (-1))), (6, .ref (ad 3 (34 * t + x5.toNatClampNeg))), (0, .ref (ad 9 t)), (1, .int x1), (2, .int x2), (3, .int x3), (4, .int x4)]) 65 6 dX10_ruling_65 rfl rfl (by decide) rfl ?_
          refine j_goto 68 8 dX10_ruling_68 (by decide) ?_
          refine j_sub [2, 3, 4, 5, 6, 0] rfl ?_
          exact ih _ (x5 + (-1))
        · refine j_aload 49 0 dX10_ruling_49 rfl ?_
          refine j_geti 51 5 nX10_ruling_X3 rfl (by decide) (prs_mem (by decide) (it_ok ht hi_19)) (by decide) (by decide) wX10_ruling_f70 (Or.inl rfl) rfl dX10_ruling_51 ?_
          refine j_iload 54 5 dX10_ruling_54 rfl ?_
          refine j_iconst (v := (-1)) 56 dX10_ruling_56 (by decide) ?_
          refine j_ixor 57 dX10_ruling_57 ?_
          refine j_iand 58 dX10_ruling_58 ?_
          refine j_if_ne 59 65 dX10_ruling_59 (by decide) (fun _ => ?_) (fun _ => ?_)
          · refine j_iinc (v := x5 + (-1)) (lv2 := [(5, .int (x5 + (-1))), (6, .ref (ad 3 (34 * t + x5.toNatClampNeg))), (0, .ref (ad 9 t)), (1, .int x1), (2, .int x2), (3, .int x3), (4, .int x4)]) 65 6 dX10_ruling_65 rfl rfl (by decide) rfl ?_
            refine j_goto 68 8 dX10_ruling_68 (by decide) ?_
            refine j_sub [2, 3, 4, 5, 6, 0] rfl ?_
            exact ih _ (x5 + (-1))
          · refine j_iload 62 6 dX10_ruling_62 rfl ?_
            exact j_iret 64 rfl dX10_ruling_64
set_option maxRecDepth 100000 in
set_option maxHeartbeats 4000000 in
theorem tX10_ruling {ad : Nat → Nat → Nat} (X : Ctx) (γ : Nat → Nat) (F : Nat) (S : St) (t : Nat) (p1 : Int32) (p2 : Int32) (p3 : Int32) (p4 : Int32) : JJ X ad γ (RQm X ad 2 44 (outpi S)) (fcm (outpi S)) 2 44 cX10_ruling 7 RX10 wsX10_ruling (some .int) (fX10_ruling F S t p1 p2 p3 p4) S 0 [(0, .ref (ad 9 t)), (1, .int p1), (2, .int p2), (3, .int p3), (4, .int p4)] [] := by
  unfold fX10_ruling
  refine j_gd (fun ht => ?_)
  have ht := of_decide_eq_true ht
  refine j_aload_n 0 0 dX10_ruling_0 rfl rfl ?_
  refine j_geti 1 6 nX10_ruling_X10 rfl (by decide) (prs_mem (by decide) ht) (by decide) (by decide) wX10_ruling_f46 (Or.inl rfl) rfl dX10_ruling_1 ?_
  refine j_iconst (v := 1) 4 dX10_ruling_4 (by decide) ?_
  refine j_isub 5 dX10_ruling_5 ?_
  refine j_bndi (fun x5_1 => ?_)
  refine j_istore (lv2 := [(5, .int x5_1), (0, .ref (ad 9 t)), (1, .int p1), (2, .int p2), (3, .int p3), (4, .int p4)]) 6 dX10_ruling_6 (by decide) rfl ?_
  refine j_sub [1, 2, 3, 4, 5, 0] rfl ?_
  exact tX10_ruling_L8 X F S t p1 p2 p3 p4 ht F _ x5_1
set_option maxRecDepth 100000 in
set_option maxHeartbeats 4000000 in
theorem kX10_ruling {ad : Nat → Nat → Nat} (F : Nat) (S : St) (t : Nat) (p1 : Int32) (p2 : Int32) (p3 : Int32) (p4 : Int32) : ∀ b, fX10_ruling F S t p1 p2 p3 p4 = some b → ∀ l dC dI cy, CT l dC dI cy ad yX10_ruling wsX10_ruling 2 44 [.ref (ad 9 t), .int p1, .int p2, .int p3, .int p4] S (some (.int b)) S :=
  fun b hb l dC dI cy => ct_of (l := l) (dC := dC) (dI := dI) (cy := cy) (outpi S) (by decide) rfl (Nat.le_of_ble_eq_true rfl) rfl (fun X γ => tX10_ruling X γ F S t p1 p2 p3 p4) b hb
-- X10_lets
theorem nX10_lets_X3 : ∀ w ∈ u_ws RX3 TX3 6, w ∈ wsX10_lets := by decide +kernel
theorem nX10_lets_X10 : ∀ w ∈ u_ws RX10 TX10 8, w ∈ wsX10_lets := by decide +kernel
theorem wX10_lets_f30 : Cond.fieldLink RX10 30 "TwoTongues$Tongue" "inForce" "[LTwoTongues$Item;" ∈ wsX10_lets := by decide +kernel
theorem wX10_lets_f88 : Cond.fieldLink RX10 88 "TwoTongues$Item" "letter" "I" ∈ wsX10_lets := by decide +kernel
set_option maxRecDepth 100000 in
set_option maxHeartbeats 4000000 in
theorem tX10_lets {ad : Nat → Nat → Nat} (X : Ctx) (γ : Nat → Nat) (F : Nat) (S : St) (t : Nat) (p1 : Int32) (p2 : Int32) (p3 : Int32) (p4 : Int32) : JJ X ad γ (RQm X ad 3 70 (outpi S)) (fcm (outpi S)) 3 70 cX10_lets 6 RX10 wsX10_lets (some .boolean) (fX10_lets F S t p1 p2 p3 p4) S 0 [(0, .ref (ad 9 t)), (1, .int p1), (2, .int p2), (3, .int p3), (4, .int p4)] [] := by
  unfold fX10_lets
  refine j_gd (fun ht => ?_)
  have ht := of_decide_eq_true ht
  refine j_aload_n 0 0 dX10_lets_0 rfl rfl ?_
  refine j_iload_n 1 1 dX10_lets_1 rfl rfl ?_
  refine j_iload_n 2 2 dX10_lets_2 rfl rfl ?_
  refine j_iload_n 3 3 dX10_lets_3 rfl rfl ?_
  refine j_iload 4 4 dX10_lets_4 rfl ?_
  refine j_callV_pi 6 rfl (by decide) (prs_mem (by decide) ht)  [.int p1, .int p2, .int p3, .int p4] [] gX10_lets_X10_ruling rfl eX10_ruling ⟨Nat.le_of_ble_eq_true rfl, Nat.le_of_ble_eq_true rfl⟩ rfl rfl (Nat.le_of_ble_eq_true rfl) dX10_lets_6 (kX10_ruling F S t p1 p2 p3 p4) (fun b_1 γ => ?_)
  refine j_istore (lv2 := [(5, .int b_1), (0, .ref (ad 9 t)), (1, .int p1), (2, .int p2), (3, .int p3), (4, .int p4)]) 9 dX10_lets_9 (by decide) rfl ?_
  refine j_iload 11 0 dX10_lets_11 rfl ?_
  refine j_if_lt 13 35 dX10_lets_13 (by decide) (fun _ => ?_) (fun _ => ?_)
  · refine j_iconst (v := 0) 35 dX10_lets_35 (by decide) ?_
    exact j_zret 36 (by decide) rfl dX10_lets_36
  · refine j_aload_n 16 1 dX10_lets_16 rfl rfl ?_
    refine j_getr (c2 := 51) (n2 := t) 17 5 nX10_lets_X10 rfl (by decide) (prs_mem (by decide) ht) (by decide) (by decide) wX10_lets_f30 (Or.inl rfl) rfl rfl (n01 _) dX10_lets_17 ?_
    refine j_iload 20 0 dX10_lets_20 rfl ?_
    refine j_aald (c := 51) (n := t) (L := 34) 22 (prs_mem (by decide) ht) (by decide) rfl rfl rfl dX10_lets_22 (fun hi_22 => ?_)
    refine j_geti 23 0 nX10_lets_X3 rfl (by decide) (prs_mem (by decide) (it_ok ht hi_22)) (by decide) (by decide) wX10_lets_f88 (Or.inl rfl) rfl dX10_lets_23 ?_
    refine j_bipush (v := 108) 26 dX10_lets_26 (by decide) ?_
    refine j_icmp_ne 28 35 dX10_lets_28 (by decide) (fun _ => ?_) (fun _ => ?_)
    · refine j_iconst (v := 0) 35 dX10_lets_35 (by decide) ?_
      exact j_zret 36 (by decide) rfl dX10_lets_36
    · refine j_iconst (v := 1) 31 dX10_lets_31 (by decide) ?_
      refine j_goto 32 36 dX10_lets_32 (by decide) ?_
      exact j_zret 36 (by decide) rfl dX10_lets_36
set_option maxRecDepth 100000 in
set_option maxHeartbeats 4000000 in
theorem kX10_lets {ad : Nat → Nat → Nat} (F : Nat) (S : St) (t : Nat) (p1 : Int32) (p2 : Int32) (p3 : Int32) (p4 : Int32) : ∀ b, fX10_lets F S t p1 p2 p3 p4 = some b → ∀ l dC dI cy, CT l dC dI cy ad yX10_lets wsX10_lets 3 70 [.ref (ad 9 t), .int p1, .int p2, .int p3, .int p4] S (some (.int b)) S :=
  fun b hb l dC dI cy => ct_of (l := l) (dC := dC) (dI := dI) (cy := cy) (outpi S) (by decide) rfl (Nat.le_of_ble_eq_true rfl) rfl (fun X γ => tX10_lets X γ F S t p1 p2 p3 p4) b hb
-- X11_isTongue
set_option maxRecDepth 100000 in
set_option maxHeartbeats 4000000 in
theorem tX11_isTongue {ad : Nat → Nat → Nat} (X : Ctx) (γ : Nat → Nat) (S : St) (p0 : Int32) : JJ X ad γ (RQm X ad 1 22 (outpi S)) (fcm (outpi S)) 1 22 cX11_isTongue 1 RX11 wsX11_isTongue (some .boolean) (fX11_isTongue S p0) S 0 [(0, .int p0)] [] := by
  unfold fX11_isTongue
  refine j_iload_n 0 0 dX11_isTongue_0 rfl rfl ?_
  refine j_iconst (v := 0) 1 dX11_isTongue_1 (by decide) ?_
  refine j_iconst (v := 1) 2 dX11_isTongue_2 (by decide) ?_
  refine j_callS_pi 3  [.int p0, .int 0, .int 1] [] gX11_isTongue_X11_within rfl eX11_within ⟨Nat.le_of_ble_eq_true rfl, Nat.le_of_ble_eq_true rfl⟩ rfl rfl (Nat.le_of_ble_eq_true rfl) dX11_isTongue_3 (kX11_within S p0 0 1) (fun b_1 γ => ?_)
  refine j_gd (fun hz => ?_)
  exact j_zret 6 (isB_nar hz) rfl dX11_isTongue_6
set_option maxRecDepth 100000 in
set_option maxHeartbeats 4000000 in
theorem kX11_isTongue {ad : Nat → Nat → Nat} (S : St) (p0 : Int32) : ∀ b, fX11_isTongue S p0 = some b → ∀ l dC dI cy, CT l dC dI cy ad yX11_isTongue wsX11_isTongue 1 22 [.int p0] S (some (.int b)) S :=
  fun b hb l dC dI cy => ct_of (l := l) (dC := dC) (dI := dI) (cy := cy) (outpi S) (by decide) rfl (Nat.le_of_ble_eq_true rfl) rfl (fun X γ => tX11_isTongue X γ S p0) b hb
-- X11_tongueOf
theorem nX11_tongueOf_X11 : ∀ w ∈ u_ws RX11 TX11 9, w ∈ wsX11_tongueOf := by decide +kernel
theorem wX11_tongueOf_f16 : Cond.fieldLink RX11 16 "TwoTongues" "other" "LTwoTongues$Tongue;" ∈ wsX11_tongueOf := by decide +kernel
theorem wX11_tongueOf_f12 : Cond.fieldLink RX11 12 "TwoTongues" "one" "LTwoTongues$Tongue;" ∈ wsX11_tongueOf := by decide +kernel
set_option maxRecDepth 100000 in
set_option maxHeartbeats 4000000 in
theorem tX11_tongueOf {ad : Nat → Nat → Nat} (X : Ctx) (γ : Nat → Nat) (S : St) (p1 : Int32) : JJ X ad γ (RQm X ad 0 0 (outpr ad S)) (fcm (outpr ad S)) 0 0 cX11_tongueOf 2 RX11 wsX11_tongueOf (some (.object "TwoTongues$Tongue")) (fX11_tongueOf S p1) S 0 [(0, .ref (ad 10 0)), (1, .int p1)] [] := by
  unfold fX11_tongueOf
  refine j_iload_n 0 1 dX11_tongueOf_0 rfl rfl ?_
  refine j_if_ne 1 11 dX11_tongueOf_1 (by decide) (fun _ => ?_) (fun _ => ?_)
  · refine j_aload_n 11 0 dX11_tongueOf_11 rfl rfl ?_
    refine j_getr (c2 := 9) (n2 := 1) 12 1 nX11_tongueOf_X11 rfl (by decide) (prs_mem (by decide) (by decide)) (by decide) (by decide) wX11_tongueOf_f16 (Or.inl rfl) rfl rfl rfl dX11_tongueOf_12 ?_
    exact j_aret 15 rfl dX11_tongueOf_15
  · refine j_aload_n 4 0 dX11_tongueOf_4 rfl rfl ?_
    refine j_getr (c2 := 9) (n2 := 0) 5 0 nX11_tongueOf_X11 rfl (by decide) (prs_mem (by decide) (by decide)) (by decide) (by decide) wX11_tongueOf_f12 (Or.inl rfl) rfl rfl rfl dX11_tongueOf_5 ?_
    refine j_goto 8 15 dX11_tongueOf_8 (by decide) ?_
    exact j_aret 15 rfl dX11_tongueOf_15
set_option maxRecDepth 100000 in
set_option maxHeartbeats 4000000 in
theorem kX11_tongueOf {ad : Nat → Nat → Nat} (S : St) (p1 : Int32) : ∀ b, fX11_tongueOf S p1 = some b → ∀ l dC dI cy, CT l dC dI cy ad yX11_tongueOf wsX11_tongueOf 0 0 [.ref (ad 10 0), .int p1] S (some (.ref (ad 9 b))) S :=
  fun b hb l dC dI cy => ct_of (l := l) (dC := dC) (dI := dI) (cy := cy) (outpr ad S) (by decide) rfl (Nat.le_of_ble_eq_true rfl) rfl (fun X γ => tX11_tongueOf X γ S p1) b hb
-- X11_book
set_option maxRecDepth 100000 in
set_option maxHeartbeats 4000000 in
theorem tX11_book {ad : Nat → Nat → Nat} (X : Ctx) (γ : Nat → Nat) (S : St) (p1 : Int32) (p2 : Int32) (p3 : Int32) (p4 : Int32) : JJ X ad γ (RQm X ad 2 42 outei) (fcm outei) 2 42 cX11_book 5 RX11 wsX11_book (some .int) (fX11_book S p1 p2 p3 p4) S 0 [(0, .ref (ad 10 0)), (1, .int p1), (2, .int p2), (3, .int p3), (4, .int p4)] [] := by
  unfold fX11_book
  refine j_iload_n 0 1 dX11_book_0 rfl rfl ?_
  refine j_callS_pi 1  [.int p1] [] gX11_book_X11_isTongue rfl eX11_isTongue ⟨Nat.le_of_ble_eq_true rfl, Nat.le_of_ble_eq_true rfl⟩ rfl rfl (Nat.le_of_ble_eq_true rfl) dX11_book_1 (kX11_isTongue S p1) (fun b_1 γ => ?_)
  refine j_if_eq 4 32 dX11_book_4 (by decide) (fun _ => ?_) (fun _ => ?_)
  · refine j_iconst (v := (-1)) 32 dX11_book_32 (by decide) ?_
    exact j_iret 33 rfl dX11_book_33
  · refine j_iload_n 7 2 dX11_book_7 rfl rfl ?_
    refine j_callS_pi 8  [.int p2] [] gX11_book_X11_isWord rfl eX11_isWord ⟨Nat.le_of_ble_eq_true rfl, Nat.le_of_ble_eq_true rfl⟩ rfl rfl (Nat.le_of_ble_eq_true rfl) dX11_book_8 (kX11_isWord S p2) (fun b_2 γ => ?_)
    refine j_if_eq 11 32 dX11_book_11 (by decide) (fun _ => ?_) (fun _ => ?_)
    · refine j_iconst (v := (-1)) 32 dX11_book_32 (by decide) ?_
      exact j_iret 33 rfl dX11_book_33
    · refine j_iload_n 14 3 dX11_book_14 rfl rfl ?_
      refine j_callS_pi 15  [.int p3] [] gX11_book_X11_isYear rfl eX11_isYear ⟨Nat.le_of_ble_eq_true rfl, Nat.le_of_ble_eq_true rfl⟩ rfl rfl (Nat.le_of_ble_eq_true rfl) dX11_book_15 (kX11_isYear S p3) (fun b_3 γ => ?_)
      refine j_if_eq 18 32 dX11_book_18 (by decide) (fun _ => ?_) (fun _ => ?_)
      · refine j_iconst (v := (-1)) 32 dX11_book_32 (by decide) ?_
        exact j_iret 33 rfl dX11_book_33
      · refine j_iload 21 4 dX11_book_21 rfl ?_
        refine j_iconst (v := 0) 23 dX11_book_23 (by decide) ?_
        refine j_bipush (v := 63) 24 dX11_book_24 (by decide) ?_
        refine j_callS_pi 26  [.int p4, .int 0, .int 63] [] gX11_book_X11_within rfl eX11_within ⟨Nat.le_of_ble_eq_true rfl, Nat.le_of_ble_eq_true rfl⟩ rfl rfl (Nat.le_of_ble_eq_true rfl) dX11_book_26 (kX11_within S p4 0 63) (fun b_4 γ => ?_)
        refine j_if_ne 29 34 dX11_book_29 (by decide) (fun _ => ?_) (fun _ => ?_)
        · refine j_aload_n 34 0 dX11_book_34 rfl rfl ?_
          refine j_iload_n 35 1 dX11_book_35 rfl rfl ?_
          refine j_callV_pr 36 rfl (by decide) (prs_mem (by decide) (by decide))  [.int p1] [] gX11_book_X11_tongueOf rfl eX11_tongueOf ⟨Nat.le_of_ble_eq_true rfl, Nat.le_of_ble_eq_true rfl⟩ rfl rfl (Nat.le_of_ble_eq_true rfl) dX11_book_36 (kX11_tongueOf S p1) (fun b_5 γ => ?_)
          refine j_gd (fun hb_5 => ?_)
          have hb_5 := of_decide_eq_true hb_5
          refine j_iload_n 39 2 dX11_book_39 rfl rfl ?_
          refine j_iload_n 40 3 dX11_book_40 rfl rfl ?_
          refine j_iload 41 4 dX11_book_41 rfl ?_
          refine j_callV_ei 43 rfl (by decide) (prs_mem (by decide) hb_5)  [.int p2, .int p3, .int p4] [] gX11_book_X10_tell rfl eX10_tell ⟨Nat.le_of_ble_eq_true rfl, Nat.le_of_ble_eq_true rfl⟩ rfl rfl (Nat.le_of_ble_eq_true rfl) dX11_book_43 (kX10_tell S b_5 p2 p3 p4) (fun b_6 γ => ?_)
          exact j_iret 46 rfl dX11_book_46
        · refine j_iconst (v := (-1)) 32 dX11_book_32 (by decide) ?_
          exact j_iret 33 rfl dX11_book_33
set_option maxRecDepth 100000 in
set_option maxHeartbeats 4000000 in
theorem kX11_book {ad : Nat → Nat → Nat} (S : St) (p1 : Int32) (p2 : Int32) (p3 : Int32) (p4 : Int32) : ∀ b, fX11_book S p1 p2 p3 p4 = some b → ∀ l dC dI cy, CT l dC dI cy ad yX11_book wsX11_book 2 42 [.ref (ad 10 0), .int p1, .int p2, .int p3, .int p4] S (some (.int b.1)) b.2 :=
  fun b hb l dC dI cy => ct_of (l := l) (dC := dC) (dI := dI) (cy := cy) outei (by decide) rfl (Nat.le_of_ble_eq_true rfl) rfl (fun X γ => tX11_book X γ S p1 p2 p3 p4) b hb
-- X11_write
theorem nX11_write_X10 : ∀ w ∈ u_ws RX10 TX10 8, w ∈ wsX11_write := by decide +kernel
theorem wX11_write_f96 : Cond.fieldLink RX11 96 "TwoTongues$Tongue" "text" "LTwoTongues$Text;" ∈ wsX11_write := by decide +kernel
set_option maxRecDepth 100000 in
set_option maxHeartbeats 4000000 in
theorem tX11_write {ad : Nat → Nat → Nat} (X : Ctx) (γ : Nat → Nat) (F : Nat) (S : St) (p1 : Int32) (p2 : Int32) (p3 : Int64) : JJ X ad γ (RQm X ad 2 42 outei) (fcm outei) 2 42 cX11_write 5 RX11 wsX11_write (some .int) (fX11_write F S p1 p2 p3) S 0 [(0, .ref (ad 10 0)), (1, .int p1), (2, .int p2), (3, .long p3)] [] := by
  unfold fX11_write
  refine j_iload_n 0 1 dX11_write_0 rfl rfl ?_
  refine j_callS_pi 1  [.int p1] [] gX11_write_X11_isTongue rfl eX11_isTongue ⟨Nat.le_of_ble_eq_true rfl, Nat.le_of_ble_eq_true rfl⟩ rfl rfl (Nat.le_of_ble_eq_true rfl) dX11_write_1 (kX11_isTongue S p1) (fun b_1 γ => ?_)
  refine j_if_eq 4 17 dX11_write_4 (by decide) (fun _ => ?_) (fun _ => ?_)
  · refine j_iconst (v := (-1)) 17 dX11_write_17 (by decide) ?_
    exact j_iret 18 rfl dX11_write_18
  · refine j_iload_n 7 2 dX11_write_7 rfl rfl ?_
    refine j_iconst (v := 1) 8 dX11_write_8 (by decide) ?_
    refine j_bipush (v := 8) 9 dX11_write_9 (by decide) ?_
    refine j_callS_pi 11  [.int p2, .int 1, .int 8] [] gX11_write_X11_within rfl eX11_within ⟨Nat.le_of_ble_eq_true rfl, Nat.le_of_ble_eq_true rfl⟩ rfl rfl (Nat.le_of_ble_eq_true rfl) dX11_write_11 (kX11_within S p2 1 8) (fun b_2 γ => ?_)
    refine j_if_ne 14 19 dX11_write_14 (by decide) (fun _ => ?_) (fun _ => ?_)
    · refine j_aload_n 19 0 dX11_write_19 rfl rfl ?_
      refine j_iload_n 20 1 dX11_write_20 rfl rfl ?_
      refine j_callV_pr 21 rfl (by decide) (prs_mem (by decide) (by decide))  [.int p1] [] gX11_write_X11_tongueOf rfl eX11_tongueOf ⟨Nat.le_of_ble_eq_true rfl, Nat.le_of_ble_eq_true rfl⟩ rfl rfl (Nat.le_of_ble_eq_true rfl) dX11_write_21 (kX11_tongueOf S p1) (fun b_3 γ => ?_)
      refine j_gd (fun hb_3 => ?_)
      have hb_3 := of_decide_eq_true hb_3
      refine j_getr (c2 := 8) (n2 := b_3) 24 4 nX11_write_X10 rfl (by decide) (prs_mem (by decide) hb_3) (by decide) (by decide) wX11_write_f96 (Or.inl rfl) rfl rfl (n01 _) dX11_write_24 ?_
      refine j_iload_n 27 2 dX11_write_27 rfl rfl ?_
      refine j_lload_n 28 3 dX11_write_28 rfl rfl ?_
      refine j_callV_ei 29 rfl (by decide) (prs_mem (by decide) hb_3)  [.int p2, .long p3] [] gX11_write_X9_append rfl eX9_append ⟨Nat.le_of_ble_eq_true rfl, Nat.le_of_ble_eq_true rfl⟩ rfl rfl (Nat.le_of_ble_eq_true rfl) dX11_write_29 (kX9_append F S b_3 p2 p3) (fun b_4 γ => ?_)
      exact j_iret 32 rfl dX11_write_32
    · refine j_iconst (v := (-1)) 17 dX11_write_17 (by decide) ?_
      exact j_iret 18 rfl dX11_write_18
set_option maxRecDepth 100000 in
set_option maxHeartbeats 4000000 in
theorem kX11_write {ad : Nat → Nat → Nat} (F : Nat) (S : St) (p1 : Int32) (p2 : Int32) (p3 : Int64) : ∀ b, fX11_write F S p1 p2 p3 = some b → ∀ l dC dI cy, CT l dC dI cy ad yX11_write wsX11_write 2 42 [.ref (ad 10 0), .int p1, .int p2, .long p3] S (some (.int b.1)) b.2 :=
  fun b hb l dC dI cy => ct_of (l := l) (dC := dC) (dI := dI) (cy := cy) outei (by decide) rfl (Nat.le_of_ble_eq_true rfl) rfl (fun X γ => tX11_write X γ F S p1 p2 p3) b hb
-- X11_wipe
theorem nX11_wipe_X10 : ∀ w ∈ u_ws RX10 TX10 8, w ∈ wsX11_wipe := by decide +kernel
theorem wX11_wipe_f96 : Cond.fieldLink RX11 96 "TwoTongues$Tongue" "text" "LTwoTongues$Text;" ∈ wsX11_wipe := by decide +kernel
set_option maxRecDepth 100000 in
set_option maxHeartbeats 4000000 in
theorem tX11_wipe {ad : Nat → Nat → Nat} (X : Ctx) (γ : Nat → Nat) (S : St) (p1 : Int32) : JJ X ad γ (RQm X ad 2 42 outei) (fcm outei) 2 42 cX11_wipe 2 RX11 wsX11_wipe (some .int) (fX11_wipe S p1) S 0 [(0, .ref (ad 10 0)), (1, .int p1)] [] := by
  unfold fX11_wipe
  refine j_iload_n 0 1 dX11_wipe_0 rfl rfl ?_
  refine j_callS_pi 1  [.int p1] [] gX11_wipe_X11_isTongue rfl eX11_isTongue ⟨Nat.le_of_ble_eq_true rfl, Nat.le_of_ble_eq_true rfl⟩ rfl rfl (Nat.le_of_ble_eq_true rfl) dX11_wipe_1 (kX11_isTongue S p1) (fun b_1 γ => ?_)
  refine j_if_ne 4 9 dX11_wipe_4 (by decide) (fun _ => ?_) (fun _ => ?_)
  · refine j_aload_n 9 0 dX11_wipe_9 rfl rfl ?_
    refine j_iload_n 10 1 dX11_wipe_10 rfl rfl ?_
    refine j_callV_pr 11 rfl (by decide) (prs_mem (by decide) (by decide))  [.int p1] [] gX11_wipe_X11_tongueOf rfl eX11_tongueOf ⟨Nat.le_of_ble_eq_true rfl, Nat.le_of_ble_eq_true rfl⟩ rfl rfl (Nat.le_of_ble_eq_true rfl) dX11_wipe_11 (kX11_tongueOf S p1) (fun b_2 γ => ?_)
    refine j_gd (fun hb_2 => ?_)
    have hb_2 := of_decide_eq_true hb_2
    refine j_getr (c2 := 8) (n2 := b_2) 14 4 nX11_wipe_X10 rfl (by decide) (prs_mem (by decide) hb_2) (by decide) (by decide) wX11_wipe_f96 (Or.inl rfl) rfl rfl (n01 _) dX11_wipe_14 ?_
    refine j_callV_ei 17 rfl (by decide) (prs_mem (by decide) hb_2)  [] [] gX11_wipe_X9_clear rfl eX9_clear ⟨Nat.le_of_ble_eq_true rfl, Nat.le_of_ble_eq_true rfl⟩ rfl rfl (Nat.le_of_ble_eq_true rfl) dX11_wipe_17 (kX9_clear S b_2) (fun b_3 γ => ?_)
    exact j_iret 20 rfl dX11_wipe_20
  · refine j_iconst (v := (-1)) 7 dX11_wipe_7 (by decide) ?_
    exact j_iret 8 rfl dX11_wipe_8
set_option maxRecDepth 100000 in
set_option maxHeartbeats 4000000 in
theorem kX11_wipe {ad : Nat → Nat → Nat} (S : St) (p1 : Int32) : ∀ b, fX11_wipe S p1 = some b → ∀ l dC dI cy, CT l dC dI cy ad yX11_wipe wsX11_wipe 2 42 [.ref (ad 10 0), .int p1] S (some (.int b.1)) b.2 :=
  fun b hb l dC dI cy => ct_of (l := l) (dC := dC) (dI := dI) (cy := cy) outei (by decide) rfl (Nat.le_of_ble_eq_true rfl) rfl (fun X γ => tX11_wipe X γ S p1) b hb
-- X11_fault
theorem nX11_fault_X10 : ∀ w ∈ u_ws RX10 TX10 8, w ∈ wsX11_fault := by decide +kernel
theorem wX11_fault_f96 : Cond.fieldLink RX11 96 "TwoTongues$Tongue" "text" "LTwoTongues$Text;" ∈ wsX11_fault := by decide +kernel
set_option maxRecDepth 100000 in
set_option maxHeartbeats 4000000 in
theorem tX11_fault {ad : Nat → Nat → Nat} (X : Ctx) (γ : Nat → Nat) (F : Nat) (S : St) (p1 : Int32) : JJ X ad γ (RQm X ad 5 118 outei) (fcm outei) 5 118 cX11_fault 2 RX11 wsX11_fault (some .int) (fX11_fault F S p1) S 0 [(0, .ref (ad 10 0)), (1, .int p1)] [] := by
  unfold fX11_fault
  refine j_iload_n 0 1 dX11_fault_0 rfl rfl ?_
  refine j_callS_pi 1  [.int p1] [] gX11_fault_X11_isTongue rfl eX11_isTongue ⟨Nat.le_of_ble_eq_true rfl, Nat.le_of_ble_eq_true rfl⟩ rfl rfl (Nat.le_of_ble_eq_true rfl) dX11_fault_1 (kX11_isTongue S p1) (fun b_1 γ => ?_)
  refine j_if_ne 4 9 dX11_fault_4 (by decide) (fun _ => ?_) (fun _ => ?_)
  · refine j_aload_n 9 0 dX11_fault_9 rfl rfl ?_
    refine j_iload_n 10 1 dX11_fault_10 rfl rfl ?_
    refine j_callV_pr 11 rfl (by decide) (prs_mem (by decide) (by decide))  [.int p1] [] gX11_fault_X11_tongueOf rfl eX11_tongueOf ⟨Nat.le_of_ble_eq_true rfl, Nat.le_of_ble_eq_true rfl⟩ rfl rfl (Nat.le_of_ble_eq_true rfl) dX11_fault_11 (kX11_tongueOf S p1) (fun b_2 γ => ?_)
    refine j_gd (fun hb_2 => ?_)
    have hb_2 := of_decide_eq_true hb_2
    refine j_getr (c2 := 8) (n2 := b_2) 14 4 nX11_fault_X10 rfl (by decide) (prs_mem (by decide) hb_2) (by decide) (by decide) wX11_fault_f96 (Or.inl rfl) rfl rfl (n01 _) dX11_fault_14 ?_
    refine j_callV_ei 17 rfl (by decide) (prs_mem (by decide) hb_2)  [] [] gX11_fault_X9_firstFault rfl eX9_firstFault ⟨Nat.le_of_ble_eq_true rfl, Nat.le_of_ble_eq_true rfl⟩ rfl rfl (Nat.le_of_ble_eq_true rfl) dX11_fault_17 (kX9_firstFault F S b_2) (fun b_3 γ => ?_)
    exact j_iret 20 rfl dX11_fault_20
  · refine j_iconst (v := (-1)) 7 dX11_fault_7 (by decide) ?_
    exact j_iret 8 rfl dX11_fault_8
set_option maxRecDepth 100000 in
set_option maxHeartbeats 4000000 in
theorem kX11_fault {ad : Nat → Nat → Nat} (F : Nat) (S : St) (p1 : Int32) : ∀ b, fX11_fault F S p1 = some b → ∀ l dC dI cy, CT l dC dI cy ad yX11_fault wsX11_fault 5 118 [.ref (ad 10 0), .int p1] S (some (.int b.1)) b.2 :=
  fun b hb l dC dI cy => ct_of (l := l) (dC := dC) (dI := dI) (cy := cy) outei (by decide) rfl (Nat.le_of_ble_eq_true rfl) rfl (fun X γ => tX11_fault X γ F S p1) b hb
-- X11_force
set_option maxRecDepth 100000 in
set_option maxHeartbeats 4000000 in
theorem tX11_force {ad : Nat → Nat → Nat} (X : Ctx) (γ : Nat → Nat) (F : Nat) (S : St) (p1 : Int32) : JJ X ad γ (RQm X ad 6 139 outei) (fcm outei) 6 139 cX11_force 2 RX11 wsX11_force (some .int) (fX11_force F S p1) S 0 [(0, .ref (ad 10 0)), (1, .int p1)] [] := by
  unfold fX11_force
  refine j_iload_n 0 1 dX11_force_0 rfl rfl ?_
  refine j_callS_pi 1  [.int p1] [] gX11_force_X11_isTongue rfl eX11_isTongue ⟨Nat.le_of_ble_eq_true rfl, Nat.le_of_ble_eq_true rfl⟩ rfl rfl (Nat.le_of_ble_eq_true rfl) dX11_force_1 (kX11_isTongue S p1) (fun b_1 γ => ?_)
  refine j_if_ne 4 9 dX11_force_4 (by decide) (fun _ => ?_) (fun _ => ?_)
  · refine j_aload_n 9 0 dX11_force_9 rfl rfl ?_
    refine j_iload_n 10 1 dX11_force_10 rfl rfl ?_
    refine j_callV_pr 11 rfl (by decide) (prs_mem (by decide) (by decide))  [.int p1] [] gX11_force_X11_tongueOf rfl eX11_tongueOf ⟨Nat.le_of_ble_eq_true rfl, Nat.le_of_ble_eq_true rfl⟩ rfl rfl (Nat.le_of_ble_eq_true rfl) dX11_force_11 (kX11_tongueOf S p1) (fun b_2 γ => ?_)
    refine j_gd (fun hb_2 => ?_)
    have hb_2 := of_decide_eq_true hb_2
    refine j_callV_ei 14 rfl (by decide) (prs_mem (by decide) hb_2)  [] [] gX11_force_X10_enact rfl eX10_enact ⟨Nat.le_of_ble_eq_true rfl, Nat.le_of_ble_eq_true rfl⟩ rfl rfl (Nat.le_of_ble_eq_true rfl) dX11_force_14 (kX10_enact F S b_2) (fun b_3 γ => ?_)
    exact j_iret 17 rfl dX11_force_17
  · refine j_iconst (v := (-1)) 7 dX11_force_7 (by decide) ?_
    exact j_iret 8 rfl dX11_force_8
set_option maxRecDepth 100000 in
set_option maxHeartbeats 4000000 in
theorem kX11_force {ad : Nat → Nat → Nat} (F : Nat) (S : St) (p1 : Int32) : ∀ b, fX11_force F S p1 = some b → ∀ l dC dI cy, CT l dC dI cy ad yX11_force wsX11_force 6 139 [.ref (ad 10 0), .int p1] S (some (.int b.1)) b.2 :=
  fun b hb l dC dI cy => ct_of (l := l) (dC := dC) (dI := dI) (cy := cy) outei (by decide) rfl (Nat.le_of_ble_eq_true rfl) rfl (fun X γ => tX11_force X γ F S p1) b hb
-- X11_means
set_option maxRecDepth 100000 in
set_option maxHeartbeats 4000000 in
theorem tX11_means {ad : Nat → Nat → Nat} (X : Ctx) (γ : Nat → Nat) (F : Nat) (S : St) (p1 : Int32) (p2 : Int32) (p3 : Int32) : JJ X ad γ (RQm X ad 2 48 (outpi S)) (fcm (outpi S)) 2 48 cX11_means 4 RX11 wsX11_means (some .int) (fX11_means F S p1 p2 p3) S 0 [(0, .ref (ad 10 0)), (1, .int p1), (2, .int p2), (3, .int p3)] [] := by
  unfold fX11_means
  refine j_iload_n 0 1 dX11_means_0 rfl rfl ?_
  refine j_callS_pi 1  [.int p1] [] gX11_means_X11_isTongue rfl eX11_isTongue ⟨Nat.le_of_ble_eq_true rfl, Nat.le_of_ble_eq_true rfl⟩ rfl rfl (Nat.le_of_ble_eq_true rfl) dX11_means_1 (kX11_isTongue S p1) (fun b_1 γ => ?_)
  refine j_if_eq 4 21 dX11_means_4 (by decide) (fun _ => ?_) (fun _ => ?_)
  · refine j_iconst (v := (-1)) 21 dX11_means_21 (by decide) ?_
    exact j_iret 22 rfl dX11_means_22
  · refine j_iload_n 7 2 dX11_means_7 rfl rfl ?_
    refine j_callS_pi 8  [.int p2] [] gX11_means_X11_isWord rfl eX11_isWord ⟨Nat.le_of_ble_eq_true rfl, Nat.le_of_ble_eq_true rfl⟩ rfl rfl (Nat.le_of_ble_eq_true rfl) dX11_means_8 (kX11_isWord S p2) (fun b_2 γ => ?_)
    refine j_if_eq 11 21 dX11_means_11 (by decide) (fun _ => ?_) (fun _ => ?_)
    · refine j_iconst (v := (-1)) 21 dX11_means_21 (by decide) ?_
      exact j_iret 22 rfl dX11_means_22
    · refine j_iload_n 14 3 dX11_means_14 rfl rfl ?_
      refine j_callS_pi 15  [.int p3] [] gX11_means_X11_isYear rfl eX11_isYear ⟨Nat.le_of_ble_eq_true rfl, Nat.le_of_ble_eq_true rfl⟩ rfl rfl (Nat.le_of_ble_eq_true rfl) dX11_means_15 (kX11_isYear S p3) (fun b_3 γ => ?_)
      refine j_if_ne 18 23 dX11_means_18 (by decide) (fun _ => ?_) (fun _ => ?_)
      · refine j_aload_n 23 0 dX11_means_23 rfl rfl ?_
        refine j_iload_n 24 1 dX11_means_24 rfl rfl ?_
        refine j_callV_pr 25 rfl (by decide) (prs_mem (by decide) (by decide))  [.int p1] [] gX11_means_X11_tongueOf rfl eX11_tongueOf ⟨Nat.le_of_ble_eq_true rfl, Nat.le_of_ble_eq_true rfl⟩ rfl rfl (Nat.le_of_ble_eq_true rfl) dX11_means_25 (kX11_tongueOf S p1) (fun b_4 γ => ?_)
        refine j_gd (fun hb_4 => ?_)
        have hb_4 := of_decide_eq_true hb_4
        refine j_iload_n 28 2 dX11_means_28 rfl rfl ?_
        refine j_iload_n 29 3 dX11_means_29 rfl rfl ?_
        refine j_callV_pi 30 rfl (by decide) (prs_mem (by decide) hb_4)  [.int p2, .int p3] [] gX11_means_X10_meaningOf rfl eX10_meaningOf ⟨Nat.le_of_ble_eq_true rfl, Nat.le_of_ble_eq_true rfl⟩ rfl rfl (Nat.le_of_ble_eq_true rfl) dX11_means_30 (kX10_meaningOf F S b_4 p2 p3) (fun b_5 γ => ?_)
        exact j_iret 33 rfl dX11_means_33
      · refine j_iconst (v := (-1)) 21 dX11_means_21 (by decide) ?_
        exact j_iret 22 rfl dX11_means_22
set_option maxRecDepth 100000 in
set_option maxHeartbeats 4000000 in
theorem kX11_means {ad : Nat → Nat → Nat} (F : Nat) (S : St) (p1 : Int32) (p2 : Int32) (p3 : Int32) : ∀ b, fX11_means F S p1 p2 p3 = some b → ∀ l dC dI cy, CT l dC dI cy ad yX11_means wsX11_means 2 48 [.ref (ad 10 0), .int p1, .int p2, .int p3] S (some (.int b)) S :=
  fun b hb l dC dI cy => ct_of (l := l) (dC := dC) (dI := dI) (cy := cy) (outpi S) (by decide) rfl (Nat.le_of_ble_eq_true rfl) rfl (fun X γ => tX11_means X γ F S p1 p2 p3) b hb
-- X11_isVerb
set_option maxRecDepth 100000 in
set_option maxHeartbeats 4000000 in
theorem tX11_isVerb {ad : Nat → Nat → Nat} (X : Ctx) (γ : Nat → Nat) (S : St) (p0 : Int32) : JJ X ad γ (RQm X ad 1 22 (outpi S)) (fcm (outpi S)) 1 22 cX11_isVerb 1 RX11 wsX11_isVerb (some .boolean) (fX11_isVerb S p0) S 0 [(0, .int p0)] [] := by
  unfold fX11_isVerb
  refine j_iload_n 0 0 dX11_isVerb_0 rfl rfl ?_
  refine j_iconst (v := 0) 1 dX11_isVerb_1 (by decide) ?_
  refine j_iconst (v := 5) 2 dX11_isVerb_2 (by decide) ?_
  refine j_callS_pi 3  [.int p0, .int 0, .int 5] [] gX11_isVerb_X11_within rfl eX11_within ⟨Nat.le_of_ble_eq_true rfl, Nat.le_of_ble_eq_true rfl⟩ rfl rfl (Nat.le_of_ble_eq_true rfl) dX11_isVerb_3 (kX11_within S p0 0 5) (fun b_1 γ => ?_)
  refine j_gd (fun hz => ?_)
  exact j_zret 6 (isB_nar hz) rfl dX11_isVerb_6
set_option maxRecDepth 100000 in
set_option maxHeartbeats 4000000 in
theorem kX11_isVerb {ad : Nat → Nat → Nat} (S : St) (p0 : Int32) : ∀ b, fX11_isVerb S p0 = some b → ∀ l dC dI cy, CT l dC dI cy ad yX11_isVerb wsX11_isVerb 1 22 [.int p0] S (some (.int b)) S :=
  fun b hb l dC dI cy => ct_of (l := l) (dC := dC) (dI := dI) (cy := cy) (outpi S) (by decide) rfl (Nat.le_of_ble_eq_true rfl) rfl (fun X γ => tX11_isVerb X γ S p0) b hb
-- X11_isFactSet
set_option maxRecDepth 100000 in
set_option maxHeartbeats 4000000 in
theorem tX11_isFactSet {ad : Nat → Nat → Nat} (X : Ctx) (γ : Nat → Nat) (S : St) (p0 : Int32) : JJ X ad γ (RQm X ad 1 22 (outpi S)) (fcm (outpi S)) 1 22 cX11_isFactSet 1 RX11 wsX11_isFactSet (some .boolean) (fX11_isFactSet S p0) S 0 [(0, .int p0)] [] := by
  unfold fX11_isFactSet
  refine j_iload_n 0 0 dX11_isFactSet_0 rfl rfl ?_
  refine j_iconst (v := 0) 1 dX11_isFactSet_1 (by decide) ?_
  refine j_sipush (v := 255) 2 dX11_isFactSet_2 (by decide) ?_
  refine j_callS_pi 5  [.int p0, .int 0, .int 255] [] gX11_isFactSet_X11_within rfl eX11_within ⟨Nat.le_of_ble_eq_true rfl, Nat.le_of_ble_eq_true rfl⟩ rfl rfl (Nat.le_of_ble_eq_true rfl) dX11_isFactSet_5 (kX11_within S p0 0 255) (fun b_1 γ => ?_)
  refine j_gd (fun hz => ?_)
  exact j_zret 8 (isB_nar hz) rfl dX11_isFactSet_8
set_option maxRecDepth 100000 in
set_option maxHeartbeats 4000000 in
theorem kX11_isFactSet {ad : Nat → Nat → Nat} (S : St) (p0 : Int32) : ∀ b, fX11_isFactSet S p0 = some b → ∀ l dC dI cy, CT l dC dI cy ad yX11_isFactSet wsX11_isFactSet 1 22 [.int p0] S (some (.int b)) S :=
  fun b hb l dC dI cy => ct_of (l := l) (dC := dC) (dI := dI) (cy := cy) (outpi S) (by decide) rfl (Nat.le_of_ble_eq_true rfl) rfl (fun X γ => tX11_isFactSet X γ S p0) b hb
-- X11_let
set_option maxRecDepth 100000 in
set_option maxHeartbeats 4000000 in
theorem tX11_let {ad : Nat → Nat → Nat} (X : Ctx) (γ : Nat → Nat) (F : Nat) (S : St) (p1 : Int32) (p2 : Int32) (p3 : Int32) (p4 : Int32) (p5 : Int32) : JJ X ad γ (RQm X ad 4 95 outei) (fcm outei) 4 95 cX11_let 7 RX11 wsX11_let (some .int) (fX11_let F S p1 p2 p3 p4 p5) S 0 [(0, .ref (ad 10 0)), (1, .int p1), (2, .int p2), (3, .int p3), (4, .int p4), (5, .int p5)] [] := by
  unfold fX11_let
  refine j_iload_n 0 1 dX11_let_0 rfl rfl ?_
  refine j_callS_pi 1  [.int p1] [] gX11_let_X11_isTongue rfl eX11_isTongue ⟨Nat.le_of_ble_eq_true rfl, Nat.le_of_ble_eq_true rfl⟩ rfl rfl (Nat.le_of_ble_eq_true rfl) dX11_let_1 (kX11_isTongue S p1) (fun b_1 γ => ?_)
  refine j_if_eq 4 37 dX11_let_4 (by decide) (fun _ => ?_) (fun _ => ?_)
  · refine j_iconst (v := (-1)) 37 dX11_let_37 (by decide) ?_
    exact j_iret 38 rfl dX11_let_38
  · refine j_iload_n 7 2 dX11_let_7 rfl rfl ?_
    refine j_callS_pi 8  [.int p2] [] gX11_let_X11_isVerb rfl eX11_isVerb ⟨Nat.le_of_ble_eq_true rfl, Nat.le_of_ble_eq_true rfl⟩ rfl rfl (Nat.le_of_ble_eq_true rfl) dX11_let_8 (kX11_isVerb S p2) (fun b_2 γ => ?_)
    refine j_if_eq 11 37 dX11_let_11 (by decide) (fun _ => ?_) (fun _ => ?_)
    · refine j_iconst (v := (-1)) 37 dX11_let_37 (by decide) ?_
      exact j_iret 38 rfl dX11_let_38
    · refine j_iload_n 14 3 dX11_let_14 rfl rfl ?_
      refine j_callS_pi 15  [.int p3] [] gX11_let_X11_isThing rfl eX11_isThing ⟨Nat.le_of_ble_eq_true rfl, Nat.le_of_ble_eq_true rfl⟩ rfl rfl (Nat.le_of_ble_eq_true rfl) dX11_let_15 (kX11_isThing S p3) (fun b_3 γ => ?_)
      refine j_if_eq 18 37 dX11_let_18 (by decide) (fun _ => ?_) (fun _ => ?_)
      · refine j_iconst (v := (-1)) 37 dX11_let_37 (by decide) ?_
        exact j_iret 38 rfl dX11_let_38
      · refine j_iload 21 4 dX11_let_21 rfl ?_
        refine j_callS_pi 23  [.int p4] [] gX11_let_X11_isYear rfl eX11_isYear ⟨Nat.le_of_ble_eq_true rfl, Nat.le_of_ble_eq_true rfl⟩ rfl rfl (Nat.le_of_ble_eq_true rfl) dX11_let_23 (kX11_isYear S p4) (fun b_4 γ => ?_)
        refine j_if_eq 26 37 dX11_let_26 (by decide) (fun _ => ?_) (fun _ => ?_)
        · refine j_iconst (v := (-1)) 37 dX11_let_37 (by decide) ?_
          exact j_iret 38 rfl dX11_let_38
        · refine j_iload 29 5 dX11_let_29 rfl ?_
          refine j_callS_pi 31  [.int p5] [] gX11_let_X11_isFactSet rfl eX11_isFactSet ⟨Nat.le_of_ble_eq_true rfl, Nat.le_of_ble_eq_true rfl⟩ rfl rfl (Nat.le_of_ble_eq_true rfl) dX11_let_31 (kX11_isFactSet S p5) (fun b_5 γ => ?_)
          refine j_if_ne 34 39 dX11_let_34 (by decide) (fun _ => ?_) (fun _ => ?_)
          · refine j_aload_n 39 0 dX11_let_39 rfl rfl ?_
            refine j_iload_n 40 1 dX11_let_40 rfl rfl ?_
            refine j_callV_pr 41 rfl (by decide) (prs_mem (by decide) (by decide))  [.int p1] [] gX11_let_X11_tongueOf rfl eX11_tongueOf ⟨Nat.le_of_ble_eq_true rfl, Nat.le_of_ble_eq_true rfl⟩ rfl rfl (Nat.le_of_ble_eq_true rfl) dX11_let_41 (kX11_tongueOf S p1) (fun b_6 γ => ?_)
            refine j_gd (fun hb_6 => ?_)
            have hb_6 := of_decide_eq_true hb_6
            refine j_astore (lv2 := [(6, .ref (ad 9 b_6)), (0, .ref (ad 10 0)), (1, .int p1), (2, .int p2), (3, .int p3), (4, .int p4), (5, .int p5)]) 44 dX11_let_44 (by decide) rfl ?_
            refine j_aload 46 0 dX11_let_46 rfl ?_
            refine j_iload 48 5 dX11_let_48 rfl ?_
            refine j_callV_ev 50 rfl (by decide) (prs_mem (by decide) hb_6)  [.int p4] [] gX11_let_X10_learn rfl eX10_learn ⟨Nat.le_of_ble_eq_true rfl, Nat.le_of_ble_eq_true rfl⟩ rfl rfl (Nat.le_of_ble_eq_true rfl) dX11_let_50 (kX10_learn F S b_6 p4) (fun b_7 γ => ?_)
            refine j_aload 53 0 dX11_let_53 rfl ?_
            refine j_iload_n 55 3 dX11_let_55 rfl rfl ?_
            refine j_iload_n 56 4 dX11_let_56 rfl rfl ?_
            refine j_iload 57 5 dX11_let_57 rfl ?_
            refine j_iload 59 6 dX11_let_59 rfl ?_
            refine j_callV_pi 61 rfl (by decide) (prs_mem (by decide) hb_6)  [.int p2, .int p3, .int p4, .int p5] [] gX11_let_X10_lets rfl eX10_lets ⟨Nat.le_of_ble_eq_true rfl, Nat.le_of_ble_eq_true rfl⟩ rfl rfl (Nat.le_of_ble_eq_true rfl) dX11_let_61 (kX10_lets F b_7 b_6 p2 p3 p4 p5) (fun b_8 γ => ?_)
            refine j_if_eq 64 71 dX11_let_64 (by decide) (fun _ => ?_) (fun _ => ?_)
            · refine j_iconst (v := 0) 71 dX11_let_71 (by decide) ?_
              exact j_iret 72 rfl dX11_let_72
            · refine j_iconst (v := 1) 67 dX11_let_67 (by decide) ?_
              refine j_goto 68 72 dX11_let_68 (by decide) ?_
              exact j_iret 72 rfl dX11_let_72
          · refine j_iconst (v := (-1)) 37 dX11_let_37 (by decide) ?_
            exact j_iret 38 rfl dX11_let_38
set_option maxRecDepth 100000 in
set_option maxHeartbeats 4000000 in
theorem kX11_let {ad : Nat → Nat → Nat} (F : Nat) (S : St) (p1 : Int32) (p2 : Int32) (p3 : Int32) (p4 : Int32) (p5 : Int32) : ∀ b, fX11_let F S p1 p2 p3 p4 p5 = some b → ∀ l dC dI cy, CT l dC dI cy ad yX11_let wsX11_let 4 95 [.ref (ad 10 0), .int p1, .int p2, .int p3, .int p4, .int p5] S (some (.int b.1)) b.2 :=
  fun b hb l dC dI cy => ct_of (l := l) (dC := dC) (dI := dI) (cy := cy) outei (by decide) rfl (Nat.le_of_ble_eq_true rfl) rfl (fun X γ => tX11_let X γ F S p1 p2 p3 p4 p5) b hb
-- X11_why
set_option maxRecDepth 100000 in
set_option maxHeartbeats 4000000 in
theorem tX11_why {ad : Nat → Nat → Nat} (X : Ctx) (γ : Nat → Nat) (F : Nat) (S : St) (p1 : Int32) (p2 : Int32) (p3 : Int32) (p4 : Int32) (p5 : Int32) : JJ X ad γ (RQm X ad 3 70 outei) (fcm outei) 3 70 cX11_why 7 RX11 wsX11_why (some .int) (fX11_why F S p1 p2 p3 p4 p5) S 0 [(0, .ref (ad 10 0)), (1, .int p1), (2, .int p2), (3, .int p3), (4, .int p4), (5, .int p5)] [] := by
  unfold fX11_why
  refine j_iload_n 0 1 dX11_why_0 rfl rfl ?_
  refine j_callS_pi 1  [.int p1] [] gX11_why_X11_isTongue rfl eX11_isTongue ⟨Nat.le_of_ble_eq_true rfl, Nat.le_of_ble_eq_true rfl⟩ rfl rfl (Nat.le_of_ble_eq_true rfl) dX11_why_1 (kX11_isTongue S p1) (fun b_1 γ => ?_)
  refine j_if_eq 4 37 dX11_why_4 (by decide) (fun _ => ?_) (fun _ => ?_)
  · refine j_iconst (v := (-1)) 37 dX11_why_37 (by decide) ?_
    exact j_iret 38 rfl dX11_why_38
  · refine j_iload_n 7 2 dX11_why_7 rfl rfl ?_
    refine j_callS_pi 8  [.int p2] [] gX11_why_X11_isVerb rfl eX11_isVerb ⟨Nat.le_of_ble_eq_true rfl, Nat.le_of_ble_eq_true rfl⟩ rfl rfl (Nat.le_of_ble_eq_true rfl) dX11_why_8 (kX11_isVerb S p2) (fun b_2 γ => ?_)
    refine j_if_eq 11 37 dX11_why_11 (by decide) (fun _ => ?_) (fun _ => ?_)
    · refine j_iconst (v := (-1)) 37 dX11_why_37 (by decide) ?_
      exact j_iret 38 rfl dX11_why_38
    · refine j_iload_n 14 3 dX11_why_14 rfl rfl ?_
      refine j_callS_pi 15  [.int p3] [] gX11_why_X11_isThing rfl eX11_isThing ⟨Nat.le_of_ble_eq_true rfl, Nat.le_of_ble_eq_true rfl⟩ rfl rfl (Nat.le_of_ble_eq_true rfl) dX11_why_15 (kX11_isThing S p3) (fun b_3 γ => ?_)
      refine j_if_eq 18 37 dX11_why_18 (by decide) (fun _ => ?_) (fun _ => ?_)
      · refine j_iconst (v := (-1)) 37 dX11_why_37 (by decide) ?_
        exact j_iret 38 rfl dX11_why_38
      · refine j_iload 21 4 dX11_why_21 rfl ?_
        refine j_callS_pi 23  [.int p4] [] gX11_why_X11_isYear rfl eX11_isYear ⟨Nat.le_of_ble_eq_true rfl, Nat.le_of_ble_eq_true rfl⟩ rfl rfl (Nat.le_of_ble_eq_true rfl) dX11_why_23 (kX11_isYear S p4) (fun b_4 γ => ?_)
        refine j_if_eq 26 37 dX11_why_26 (by decide) (fun _ => ?_) (fun _ => ?_)
        · refine j_iconst (v := (-1)) 37 dX11_why_37 (by decide) ?_
          exact j_iret 38 rfl dX11_why_38
        · refine j_iload 29 5 dX11_why_29 rfl ?_
          refine j_callS_pi 31  [.int p5] [] gX11_why_X11_isFactSet rfl eX11_isFactSet ⟨Nat.le_of_ble_eq_true rfl, Nat.le_of_ble_eq_true rfl⟩ rfl rfl (Nat.le_of_ble_eq_true rfl) dX11_why_31 (kX11_isFactSet S p5) (fun b_5 γ => ?_)
          refine j_if_ne 34 39 dX11_why_34 (by decide) (fun _ => ?_) (fun _ => ?_)
          · refine j_aload_n 39 0 dX11_why_39 rfl rfl ?_
            refine j_iload_n 40 1 dX11_why_40 rfl rfl ?_
            refine j_callV_pr 41 rfl (by decide) (prs_mem (by decide) (by decide))  [.int p1] [] gX11_why_X11_tongueOf rfl eX11_tongueOf ⟨Nat.le_of_ble_eq_true rfl, Nat.le_of_ble_eq_true rfl⟩ rfl rfl (Nat.le_of_ble_eq_true rfl) dX11_why_41 (kX11_tongueOf S p1) (fun b_6 γ => ?_)
            refine j_gd (fun hb_6 => ?_)
            have hb_6 := of_decide_eq_true hb_6
            refine j_astore (lv2 := [(6, .ref (ad 9 b_6)), (0, .ref (ad 10 0)), (1, .int p1), (2, .int p2), (3, .int p3), (4, .int p4), (5, .int p5)]) 44 dX11_why_44 (by decide) rfl ?_
            refine j_aload 46 0 dX11_why_46 rfl ?_
            refine j_iload 48 5 dX11_why_48 rfl ?_
            refine j_callV_ev 50 rfl (by decide) (prs_mem (by decide) hb_6)  [.int p4] [] gX11_why_X10_learn rfl eX10_learn ⟨Nat.le_of_ble_eq_true rfl, Nat.le_of_ble_eq_true rfl⟩ rfl rfl (Nat.le_of_ble_eq_true rfl) dX11_why_50 (kX10_learn F S b_6 p4) (fun b_7 γ => ?_)
            refine j_aload 53 0 dX11_why_53 rfl ?_
            refine j_iload_n 55 3 dX11_why_55 rfl rfl ?_
            refine j_iload_n 56 4 dX11_why_56 rfl rfl ?_
            refine j_iload 57 5 dX11_why_57 rfl ?_
            refine j_iload 59 6 dX11_why_59 rfl ?_
            refine j_callV_pi 61 rfl (by decide) (prs_mem (by decide) hb_6)  [.int p2, .int p3, .int p4, .int p5] [] gX11_why_X10_ruling rfl eX10_ruling ⟨Nat.le_of_ble_eq_true rfl, Nat.le_of_ble_eq_true rfl⟩ rfl rfl (Nat.le_of_ble_eq_true rfl) dX11_why_61 (kX10_ruling F b_7 b_6 p2 p3 p4 p5) (fun b_8 γ => ?_)
            exact j_iret 64 rfl dX11_why_64
          · refine j_iconst (v := (-1)) 37 dX11_why_37 (by decide) ?_
            exact j_iret 38 rfl dX11_why_38
set_option maxRecDepth 100000 in
set_option maxHeartbeats 4000000 in
theorem kX11_why {ad : Nat → Nat → Nat} (F : Nat) (S : St) (p1 : Int32) (p2 : Int32) (p3 : Int32) (p4 : Int32) (p5 : Int32) : ∀ b, fX11_why F S p1 p2 p3 p4 p5 = some b → ∀ l dC dI cy, CT l dC dI cy ad yX11_why wsX11_why 3 70 [.ref (ad 10 0), .int p1, .int p2, .int p3, .int p4, .int p5] S (some (.int b.1)) b.2 :=
  fun b hb l dC dI cy => ct_of (l := l) (dC := dC) (dI := dI) (cy := cy) outei (by decide) rfl (Nat.le_of_ble_eq_true rfl) rfl (fun X γ => tX11_why X γ F S p1 p2 p3 p4 p5) b hb
-- X11_learn
theorem nX11_learn_X11 : ∀ w ∈ u_ws RX11 TX11 9, w ∈ wsX11_learn := by decide +kernel
theorem wX11_learn_f12 : Cond.fieldLink RX11 12 "TwoTongues" "one" "LTwoTongues$Tongue;" ∈ wsX11_learn := by decide +kernel
theorem wX11_learn_f16 : Cond.fieldLink RX11 16 "TwoTongues" "other" "LTwoTongues$Tongue;" ∈ wsX11_learn := by decide +kernel
set_option maxRecDepth 100000 in
set_option maxHeartbeats 4000000 in
theorem tX11_learn {ad : Nat → Nat → Nat} (X : Ctx) (γ : Nat → Nat) (F : Nat) (S : St) (p1 : Int32) : JJ X ad γ (RQm X ad 3 70 outev) (fcm outev) 3 70 cX11_learn 2 RX11 wsX11_learn none (fX11_learn F S p1) S 0 [(0, .ref (ad 10 0)), (1, .int p1)] [] := by
  unfold fX11_learn
  refine j_aload_n 0 0 dX11_learn_0 rfl rfl ?_
  refine j_getr (c2 := 9) (n2 := 0) 1 0 nX11_learn_X11 rfl (by decide) (prs_mem (by decide) (by decide)) (by decide) (by decide) wX11_learn_f12 (Or.inl rfl) rfl rfl rfl dX11_learn_1 ?_
  refine j_iload_n 4 1 dX11_learn_4 rfl rfl ?_
  refine j_callV_ev 5 rfl (by decide) (prs_mem (by decide) (by decide))  [.int p1] [] gX11_learn_X10_learn rfl eX10_learn ⟨Nat.le_of_ble_eq_true rfl, Nat.le_of_ble_eq_true rfl⟩ rfl rfl (Nat.le_of_ble_eq_true rfl) dX11_learn_5 (kX10_learn F S 0 p1) (fun b_1 γ => ?_)
  refine j_aload_n 8 0 dX11_learn_8 rfl rfl ?_
  refine j_getr (c2 := 9) (n2 := 1) 9 1 nX11_learn_X11 rfl (by decide) (prs_mem (by decide) (by decide)) (by decide) (by decide) wX11_learn_f16 (Or.inl rfl) rfl rfl rfl dX11_learn_9 ?_
  refine j_iload_n 12 1 dX11_learn_12 rfl rfl ?_
  refine j_callV_ev 13 rfl (by decide) (prs_mem (by decide) (by decide))  [.int p1] [] gX11_learn_X10_learn rfl eX10_learn ⟨Nat.le_of_ble_eq_true rfl, Nat.le_of_ble_eq_true rfl⟩ rfl rfl (Nat.le_of_ble_eq_true rfl) dX11_learn_13 (kX10_learn F b_1 1 p1) (fun b_2 γ => ?_)
  exact j_vret 16 rfl dX11_learn_16
set_option maxRecDepth 100000 in
set_option maxHeartbeats 4000000 in
theorem kX11_learn {ad : Nat → Nat → Nat} (F : Nat) (S : St) (p1 : Int32) : ∀ b, fX11_learn F S p1 = some b → ∀ l dC dI cy, CT l dC dI cy ad yX11_learn wsX11_learn 3 70 [.ref (ad 10 0), .int p1] S (none) b :=
  fun b hb l dC dI cy => ct_of (l := l) (dC := dC) (dI := dI) (cy := cy) outev (by decide) rfl (Nat.le_of_ble_eq_true rfl) rfl (fun X γ => tX11_learn X γ F S p1) b hb
-- X11_differ
theorem nX11_differ_X11 : ∀ w ∈ u_ws RX11 TX11 9, w ∈ wsX11_differ := by decide +kernel
theorem wX11_differ_f12 : Cond.fieldLink RX11 12 "TwoTongues" "one" "LTwoTongues$Tongue;" ∈ wsX11_differ := by decide +kernel
theorem wX11_differ_f16 : Cond.fieldLink RX11 16 "TwoTongues" "other" "LTwoTongues$Tongue;" ∈ wsX11_differ := by decide +kernel
set_option maxRecDepth 100000 in
set_option maxHeartbeats 4000000 in
theorem tX11_differ {ad : Nat → Nat → Nat} (X : Ctx) (γ : Nat → Nat) (F : Nat) (S : St) (p1 : Int32) (p2 : Int32) (p3 : Int32) : JJ X ad γ (RQm X ad 4 95 (outpi S)) (fcm (outpi S)) 4 95 cX11_differ 6 RX11 wsX11_differ (some .boolean) (fX11_differ F S p1 p2 p3) S 0 [(0, .ref (ad 10 0)), (1, .int p1), (2, .int p2), (3, .int p3)] [] := by
  unfold fX11_differ
  refine j_iload_n 0 1 dX11_differ_0 rfl rfl ?_
  refine j_bipush (v := 6) 1 dX11_differ_1 (by decide) ?_
  refine j_idiv 3 dX11_differ_3 ?_
  refine j_bndi (fun x4_1 => ?_)
  refine j_istore (lv2 := [(4, .int x4_1), (0, .ref (ad 10 0)), (1, .int p1), (2, .int p2), (3, .int p3)]) 4 dX11_differ_4 (by decide) rfl ?_
  refine j_iload_n 6 2 dX11_differ_6 rfl rfl ?_
  refine j_bipush (v := 6) 7 dX11_differ_7 (by decide) ?_
  refine j_irem 9 dX11_differ_9 ?_
  refine j_bndi (fun x5_2 => ?_)
  refine j_istore (lv2 := [(5, .int x5_2), (4, .int x4_1), (0, .ref (ad 10 0)), (1, .int p1), (2, .int p2), (3, .int p3)]) 10 dX11_differ_10 (by decide) rfl ?_
  refine j_aload_n 12 2 dX11_differ_12 rfl rfl ?_
  refine j_getr (c2 := 9) (n2 := 0) 13 0 nX11_differ_X11 rfl (by decide) (prs_mem (by decide) (by decide)) (by decide) (by decide) wX11_differ_f12 (Or.inl rfl) rfl rfl rfl dX11_differ_13 ?_
  refine j_iload 16 1 dX11_differ_16 rfl ?_
  refine j_iload 18 0 dX11_differ_18 rfl ?_
  refine j_iload_n 20 4 dX11_differ_20 rfl rfl ?_
  refine j_iload_n 21 5 dX11_differ_21 rfl rfl ?_
  refine j_callV_pi 22 rfl (by decide) (prs_mem (by decide) (by decide))  [.int x4_1, .int x5_2, .int p2, .int p3] [] gX11_differ_X10_lets rfl eX10_lets ⟨Nat.le_of_ble_eq_true rfl, Nat.le_of_ble_eq_true rfl⟩ rfl rfl (Nat.le_of_ble_eq_true rfl) dX11_differ_22 (kX10_lets F S 0 x4_1 x5_2 p2 p3) (fun b_3 γ => ?_)
  refine j_aload_n 25 2 dX11_differ_25 rfl rfl ?_
  refine j_getr (c2 := 9) (n2 := 1) 26 1 nX11_differ_X11 rfl (by decide) (prs_mem (by decide) (by decide)) (by decide) (by decide) wX11_differ_f16 (Or.inl rfl) rfl rfl rfl dX11_differ_26 ?_
  refine j_iload 29 1 dX11_differ_29 rfl ?_
  refine j_iload 31 0 dX11_differ_31 rfl ?_
  refine j_iload_n 33 4 dX11_differ_33 rfl rfl ?_
  refine j_iload_n 34 5 dX11_differ_34 rfl rfl ?_
  refine j_callV_pi 35 rfl (by decide) (prs_mem (by decide) (by decide))  [.int x4_1, .int x5_2, .int p2, .int p3] [.int b_3] gX11_differ_X10_lets rfl eX10_lets ⟨Nat.le_of_ble_eq_true rfl, Nat.le_of_ble_eq_true rfl⟩ rfl rfl (Nat.le_of_ble_eq_true rfl) dX11_differ_35 (kX10_lets F S 1 x4_1 x5_2 p2 p3) (fun b_4 γ => ?_)
  refine j_icmp_eq 38 45 dX11_differ_38 (by decide) (fun _ => ?_) (fun _ => ?_)
  · refine j_iconst (v := 0) 45 dX11_differ_45 (by decide) ?_
    exact j_zret 46 (by decide) rfl dX11_differ_46
  · refine j_iconst (v := 1) 41 dX11_differ_41 (by decide) ?_
    refine j_goto 42 46 dX11_differ_42 (by decide) ?_
    exact j_zret 46 (by decide) rfl dX11_differ_46
set_option maxRecDepth 100000 in
set_option maxHeartbeats 4000000 in
theorem kX11_differ {ad : Nat → Nat → Nat} (F : Nat) (S : St) (p1 : Int32) (p2 : Int32) (p3 : Int32) : ∀ b, fX11_differ F S p1 p2 p3 = some b → ∀ l dC dI cy, CT l dC dI cy ad yX11_differ wsX11_differ 4 95 [.ref (ad 10 0), .int p1, .int p2, .int p3] S (some (.int b)) S :=
  fun b hb l dC dI cy => ct_of (l := l) (dC := dC) (dI := dI) (cy := cy) (outpi S) (by decide) rfl (Nat.le_of_ble_eq_true rfl) rfl (fun X γ => tX11_differ X γ F S p1 p2 p3) b hb
-- X11_unlike
set_option maxRecDepth 100000 in
set_option maxHeartbeats 4000000 in
theorem tX11_unlike_L32 {ad : Nat → Nat → Nat} (X : Ctx) (F : Nat) (S : St) (x1 : Int32) (x2 : Int32) (x3 : Int32) (k68 : Int32 → Option (Int32 × St))  (hk68 : ∀ (γ : Nat → Nat) (x4 : Int32), JJ X ad γ (RQm X ad 5 120 outei) (fcm outei) 5 120 cX11_unlike 6 RX11 wsX11_unlike (some .int) (k68 x4) S 68 [(3, .int x3), (4, .int x4)] []) : ∀ (n : Nat) (γ : Nat → Nat) (x4 : Int32) (x5 : Int32), JJ X ad γ (RQm X ad 5 120 outei) (fcm outei) 5 120 cX11_unlike 6 RX11 wsX11_unlike (some .int) (fX11_unlike_L32 F S x1 x2 x3 k68 n x4 x5) S 32 [(0, .ref (ad 10 0)), (1, .int x1), (2, .int x2), (3, .int x3), (4, .int x4), (5, .int x5)] [] := by
  intro n
  induction n with
  | zero => intro _ _ _; exact j_none
  | succ n ih =>
    intro γ x4 x5
    rw [show fX11_unlike_L32 F S x1 x2 x3 k68 (n + 1) x4 x5 = fX11_unlike_b32 F S x1 x2 x3 k68 (fX11_unlike_L32 F S x1 x2 x3 k68 n) x4 x5 from rfl]
    unfold fX11_unlike_b32
    refine j_iload 32 5 dX11_unlike_32 rfl ?_
    refine j_bipush (v := 36) 34 dX11_unlike_34 (by decide) ?_
    refine j_icmp_ge 36 68 dX11_unlike_36 (by decide) (fun _ => ?_) (fun _ => ?_)
    · refine j_sub [3, 4] rfl ?_
      exact hk68 _ x4
    · refine j_aload_n 39 0 dX11_unlike_39 rfl rfl ?_
      refine j_iload 40 5 dX11_unlike_40 rfl ?_
      refine j_iload_n 42 1 dX11_unlike_42 rfl rfl ?_
      refine j_iload_n 43 2 dX11_unlike_43 rfl rfl ?_
      refine j_callV_pi 44 rfl (by decide) (prs_mem (by decide) (by decide))  [.int x5, .int x1, .int x2] [] gX11_unlike_X11_differ rfl eX11_differ ⟨Nat.le_of_ble_eq_true rfl, Nat.le_of_ble_eq_true rfl⟩ rfl rfl (Nat.le_of_ble_eq_true rfl) dX11_unlike_44 (kX11_differ F S x5 x1 x2) (fun b_4 γ => ?_)
      refine j_if_eq 47 62 dX11_unlike_47 (by decide) (fun _ => ?_) (fun _ => ?_)
      · refine j_iinc (v := x5 + 1) (lv2 := [(5, .int (x5 + 1)), (0, .ref (ad 10 0)), (1, .int x1), (2, .int x2), (3, .int x3), (4, .int x4)]) 62 5 dX11_unlike_62 rfl rfl (by decide) rfl ?_
        refine j_goto 65 32 dX11_unlike_65 (by decide) ?_
        refine j_sub [1, 2, 3, 4, 5, 0] rfl ?_
        exact ih _ x4 (x5 + 1)
      · refine j_iload 50 4 dX11_unlike_50 rfl ?_
        refine j_iload_n 52 3 dX11_unlike_52 rfl rfl ?_
        refine j_icmp_ne 53 59 dX11_unlike_53 (by decide) (fun _ => ?_) (fun _ => ?_)
        · refine j_iinc (v := x4 + 1) (lv2 := [(4, .int (x4 + 1)), (0, .ref (ad 10 0)), (1, .int x1), (2, .int x2), (3, .int x3), (5, .int x5)]) 59 4 dX11_unlike_59 rfl rfl (by decide) rfl ?_
          refine j_iinc (v := x5 + 1) (lv2 := [(5, .int (x5 + 1)), (4, .int (x4 + 1)), (0, .ref (ad 10 0)), (1, .int x1), (2, .int x2), (3, .int x3)]) 62 5 dX11_unlike_62 rfl rfl (by decide) rfl ?_
          refine j_goto 65 32 dX11_unlike_65 (by decide) ?_
          refine j_sub [2, 3, 4, 5, 1, 0] rfl ?_
          exact ih _ (x4 + 1) (x5 + 1)
        · refine j_iload 56 5 dX11_unlike_56 rfl ?_
          exact j_iret 58 rfl dX11_unlike_58
set_option maxRecDepth 100000 in
set_option maxHeartbeats 4000000 in
theorem tX11_unlike {ad : Nat → Nat → Nat} (X : Ctx) (γ : Nat → Nat) (F : Nat) (S : St) (p1 : Int32) (p2 : Int32) (p3 : Int32) : JJ X ad γ (RQm X ad 5 120 outei) (fcm outei) 5 120 cX11_unlike 6 RX11 wsX11_unlike (some .int) (fX11_unlike F S p1 p2 p3) S 0 [(0, .ref (ad 10 0)), (1, .int p1), (2, .int p2), (3, .int p3)] [] := by
  unfold fX11_unlike
  refine j_iload_n 0 1 dX11_unlike_0 rfl rfl ?_
  refine j_callS_pi 1  [.int p1] [] gX11_unlike_X11_isYear rfl eX11_isYear ⟨Nat.le_of_ble_eq_true rfl, Nat.le_of_ble_eq_true rfl⟩ rfl rfl (Nat.le_of_ble_eq_true rfl) dX11_unlike_1 (kX11_isYear S p1) (fun b_1 γ => ?_)
  refine j_if_eq 4 19 dX11_unlike_4 (by decide) (fun _ => ?_) (fun _ => ?_)
  · refine j_iconst (v := (-1)) 19 dX11_unlike_19 (by decide) ?_
    exact j_iret 20 rfl dX11_unlike_20
  · refine j_iload_n 7 2 dX11_unlike_7 rfl rfl ?_
    refine j_callS_pi 8  [.int p2] [] gX11_unlike_X11_isFactSet rfl eX11_isFactSet ⟨Nat.le_of_ble_eq_true rfl, Nat.le_of_ble_eq_true rfl⟩ rfl rfl (Nat.le_of_ble_eq_true rfl) dX11_unlike_8 (kX11_isFactSet S p2) (fun b_2 γ => ?_)
    refine j_if_eq 11 19 dX11_unlike_11 (by decide) (fun _ => ?_) (fun _ => ?_)
    · refine j_iconst (v := (-1)) 19 dX11_unlike_19 (by decide) ?_
      exact j_iret 20 rfl dX11_unlike_20
    · refine j_iload_n 14 3 dX11_unlike_14 rfl rfl ?_
      refine j_iconst (v := (-1)) 15 dX11_unlike_15 (by decide) ?_
      refine j_icmp_ge 16 21 dX11_unlike_16 (by decide) (fun _ => ?_) (fun _ => ?_)
      · refine j_aload_n 21 0 dX11_unlike_21 rfl rfl ?_
        refine j_iload_n 22 1 dX11_unlike_22 rfl rfl ?_
        refine j_callV_ev 23 rfl (by decide) (prs_mem (by decide) (by decide))  [.int p1] [] gX11_unlike_X11_learn rfl eX11_learn ⟨Nat.le_of_ble_eq_true rfl, Nat.le_of_ble_eq_true rfl⟩ rfl rfl (Nat.le_of_ble_eq_true rfl) dX11_unlike_23 (kX11_learn F S p1) (fun b_3 γ => ?_)
        refine j_iconst (v := 0) 26 dX11_unlike_26 (by decide) ?_
        refine j_istore (lv2 := [(4, .int 0), (0, .ref (ad 10 0)), (1, .int p1), (2, .int p2), (3, .int p3)]) 27 dX11_unlike_27 (by decide) rfl ?_
        refine j_iconst (v := 0) 29 dX11_unlike_29 (by decide) ?_
        refine j_istore (lv2 := [(5, .int 0), (4, .int 0), (0, .ref (ad 10 0)), (1, .int p1), (2, .int p2), (3, .int p3)]) 30 dX11_unlike_30 (by decide) rfl ?_
        refine j_sub [2, 3, 4, 5, 1, 0] rfl ?_
        refine tX11_unlike_L32 X F b_3 p1 p2 p3 _ (fun γ x4_5 => ?_) F _ 0 0
        refine j_iload_n 68 0 dX11_unlike_68 rfl rfl ?_
        refine j_iconst (v := (-1)) 69 dX11_unlike_69 (by decide) ?_
        refine j_icmp_ne 70 78 dX11_unlike_70 (by decide) (fun _ => ?_) (fun _ => ?_)
        · refine j_bipush (v := (-4)) 78 dX11_unlike_78 (by decide) ?_
          exact j_iret 80 rfl dX11_unlike_80
        · refine j_iload 73 1 dX11_unlike_73 rfl ?_
          refine j_goto 75 80 dX11_unlike_75 (by decide) ?_
          exact j_iret 80 rfl dX11_unlike_80
      · refine j_iconst (v := (-1)) 19 dX11_unlike_19 (by decide) ?_
        exact j_iret 20 rfl dX11_unlike_20
set_option maxRecDepth 100000 in
set_option maxHeartbeats 4000000 in
theorem kX11_unlike {ad : Nat → Nat → Nat} (F : Nat) (S : St) (p1 : Int32) (p2 : Int32) (p3 : Int32) : ∀ b, fX11_unlike F S p1 p2 p3 = some b → ∀ l dC dI cy, CT l dC dI cy ad yX11_unlike wsX11_unlike 5 120 [.ref (ad 10 0), .int p1, .int p2, .int p3] S (some (.int b.1)) b.2 :=
  fun b hb l dC dI cy => ct_of (l := l) (dC := dC) (dI := dI) (cy := cy) outei (by decide) rfl (Nat.le_of_ble_eq_true rfl) rfl (fun X γ => tX11_unlike X γ F S p1 p2 p3) b hb
-- X11_isAct
set_option maxRecDepth 100000 in
set_option maxHeartbeats 4000000 in
theorem tX11_isAct {ad : Nat → Nat → Nat} (X : Ctx) (γ : Nat → Nat) (S : St) (p0 : Int32) : JJ X ad γ (RQm X ad 1 22 (outpi S)) (fcm (outpi S)) 1 22 cX11_isAct 1 RX11 wsX11_isAct (some .boolean) (fX11_isAct S p0) S 0 [(0, .int p0)] [] := by
  unfold fX11_isAct
  refine j_iload_n 0 0 dX11_isAct_0 rfl rfl ?_
  refine j_iconst (v := 0) 1 dX11_isAct_1 (by decide) ?_
  refine j_bipush (v := 35) 2 dX11_isAct_2 (by decide) ?_
  refine j_callS_pi 4  [.int p0, .int 0, .int 35] [] gX11_isAct_X11_within rfl eX11_within ⟨Nat.le_of_ble_eq_true rfl, Nat.le_of_ble_eq_true rfl⟩ rfl rfl (Nat.le_of_ble_eq_true rfl) dX11_isAct_4 (kX11_within S p0 0 35) (fun b_1 γ => ?_)
  refine j_gd (fun hz => ?_)
  exact j_zret 7 (isB_nar hz) rfl dX11_isAct_7
set_option maxRecDepth 100000 in
set_option maxHeartbeats 4000000 in
theorem kX11_isAct {ad : Nat → Nat → Nat} (S : St) (p0 : Int32) : ∀ b, fX11_isAct S p0 = some b → ∀ l dC dI cy, CT l dC dI cy ad yX11_isAct wsX11_isAct 1 22 [.int p0] S (some (.int b)) S :=
  fun b hb l dC dI cy => ct_of (l := l) (dC := dC) (dI := dI) (cy := cy) (outpi S) (by decide) rfl (Nat.le_of_ble_eq_true rfl) rfl (fun X γ => tX11_isAct X γ S p0) b hb
-- X11_least
set_option maxRecDepth 100000 in
set_option maxHeartbeats 4000000 in
theorem tX11_least_j58 {ad : Nat → Nat → Nat} (X : Ctx) (γ : Nat → Nat) (F : Nat) (S : St) (x1 : Int32) (x2 : Int32) (x3 : Int32) (x4 : Int32) (s0 : Int32) (rec : Int32 → Int32 → Option (Int32 × St))  (ih : ∀ (γ : Nat → Nat) (x3 : Int32) (x4 : Int32), JJ X ad γ (RQm X ad 5 120 outei) (fcm outei) 5 120 cX11_least 6 RX11 wsX11_least (some .int) (rec x3 x4) S 27 [(0, .ref (ad 10 0)), (1, .int x1), (2, .int x2), (3, .int x3), (4, .int x4)] []) : JJ X ad γ (RQm X ad 5 120 outei) (fcm outei) 5 120 cX11_least 6 RX11 wsX11_least (some .int) (fX11_least_j58 F S x1 x2 x3 x4 s0 rec) S 58 [(0, .ref (ad 10 0)), (1, .int x1), (2, .int x2), (3, .int x3), (4, .int x4)] [.int s0] := by
  unfold fX11_least_j58
  refine j_istore (lv2 := [(5, .int s0), (0, .ref (ad 10 0)), (1, .int x1), (2, .int x2), (3, .int x3), (4, .int x4)]) 58 dX11_least_58 (by decide) rfl ?_
  refine j_iload 60 0 dX11_least_60 rfl ?_
  refine j_if_eq 62 79 dX11_least_62 (by decide) (fun _ => ?_) (fun _ => ?_)
  · refine j_iinc (v := x4 + 1) (lv2 := [(4, .int (x4 + 1)), (5, .int s0), (0, .ref (ad 10 0)), (1, .int x1), (2, .int x2), (3, .int x3)]) 79 5 dX11_least_79 rfl rfl (by decide) rfl ?_
    refine j_goto 82 27 dX11_least_82 (by decide) ?_
    refine j_sub [2, 3, 4, 5, 0] rfl ?_
    exact ih _ x3 (x4 + 1)
  · refine j_aload_n 65 1 dX11_least_65 rfl rfl ?_
    refine j_iload_n 66 2 dX11_least_66 rfl rfl ?_
    refine j_iload_n 67 3 dX11_least_67 rfl rfl ?_
    refine j_iload 68 5 dX11_least_68 rfl ?_
    refine j_callV_pi 70 rfl (by decide) (prs_mem (by decide) (by decide))  [.int x1, .int x2, .int x4] [] gX11_least_X11_differ rfl eX11_differ ⟨Nat.le_of_ble_eq_true rfl, Nat.le_of_ble_eq_true rfl⟩ rfl rfl (Nat.le_of_ble_eq_true rfl) dX11_least_70 (kX11_differ F S x1 x2 x4) (fun b_4 γ => ?_)
    refine j_if_eq 73 79 dX11_least_73 (by decide) (fun _ => ?_) (fun _ => ?_)
    · refine j_iinc (v := x4 + 1) (lv2 := [(4, .int (x4 + 1)), (5, .int s0), (0, .ref (ad 10 0)), (1, .int x1), (2, .int x2), (3, .int x3)]) 79 5 dX11_least_79 rfl rfl (by decide) rfl ?_
      refine j_goto 82 27 dX11_least_82 (by decide) ?_
      refine j_sub [2, 3, 4, 5, 0] rfl ?_
      exact ih _ x3 (x4 + 1)
    · refine j_iload 76 5 dX11_least_76 rfl ?_
      refine j_istore_n (lv2 := [(3, .int x4), (5, .int s0), (0, .ref (ad 10 0)), (1, .int x1), (2, .int x2), (4, .int x4)]) 78 dX11_least_78 rfl (by decide) rfl ?_
      refine j_iinc (v := x4 + 1) (lv2 := [(4, .int (x4 + 1)), (3, .int x4), (5, .int s0), (0, .ref (ad 10 0)), (1, .int x1), (2, .int x2)]) 79 5 dX11_least_79 rfl rfl (by decide) rfl ?_
      refine j_goto 82 27 dX11_least_82 (by decide) ?_
      refine j_sub [3, 4, 5, 1, 0] rfl ?_
      exact ih _ x4 (x4 + 1)
set_option maxRecDepth 100000 in
set_option maxHeartbeats 4000000 in
theorem tX11_least_j53 {ad : Nat → Nat → Nat} (X : Ctx) (γ : Nat → Nat) (F : Nat) (S : St) (x1 : Int32) (x2 : Int32) (x3 : Int32) (x4 : Int32) (rec : Int32 → Int32 → Option (Int32 × St))  (ih : ∀ (γ : Nat → Nat) (x3 : Int32) (x4 : Int32), JJ X ad γ (RQm X ad 5 120 outei) (fcm outei) 5 120 cX11_least 6 RX11 wsX11_least (some .int) (rec x3 x4) S 27 [(0, .ref (ad 10 0)), (1, .int x1), (2, .int x2), (3, .int x3), (4, .int x4)] []) : JJ X ad γ (RQm X ad 5 120 outei) (fcm outei) 5 120 cX11_least 6 RX11 wsX11_least (some .int) (fX11_least_j53 F S x1 x2 x3 x4 rec) S 53 [(0, .ref (ad 10 0)), (1, .int x1), (2, .int x2), (3, .int x3), (4, .int x4)] [] := by
  unfold fX11_least_j53
  refine j_iconst (v := 1) 53 dX11_least_53 (by decide) ?_
  refine j_goto 54 58 dX11_least_54 (by decide) ?_
  exact tX11_least_j58 X _ F S x1 x2 x3 x4 1 _ ih
set_option maxRecDepth 100000 in
set_option maxHeartbeats 4000000 in
theorem tX11_least_L27 {ad : Nat → Nat → Nat} (X : Ctx) (F : Nat) (S : St) (x1 : Int32) (x2 : Int32)   : ∀ (n : Nat) (γ : Nat → Nat) (x3 : Int32) (x4 : Int32), JJ X ad γ (RQm X ad 5 120 outei) (fcm outei) 5 120 cX11_least 6 RX11 wsX11_least (some .int) (fX11_least_L27 F S x1 x2 n x3 x4) S 27 [(0, .ref (ad 10 0)), (1, .int x1), (2, .int x2), (3, .int x3), (4, .int x4)] [] := by
  intro n
  induction n with
  | zero => intro _ _ _; exact j_none
  | succ n ih =>
    intro γ x3 x4
    rw [show fX11_least_L27 F S x1 x2 (n + 1) x3 x4 = fX11_least_b27 F S x1 x2 (fX11_least_L27 F S x1 x2 n) x3 x4 from rfl]
    unfold fX11_least_b27
    refine j_iload 27 4 dX11_least_27 rfl ?_
    refine j_sipush (v := 256) 29 dX11_least_29 (by decide) ?_
    refine j_icmp_ge 32 85 dX11_least_32 (by decide) (fun _ => ?_) (fun _ => ?_)
    · refine j_iload_n 85 3 dX11_least_85 rfl rfl ?_
      exact j_iret 86 rfl dX11_least_86
    · refine j_iload_n 35 3 dX11_least_35 rfl rfl ?_
      refine j_bipush (v := (-4)) 36 dX11_least_36 (by decide) ?_
      refine j_icmp_eq 38 53 dX11_least_38 (by decide) (fun _ => ?_) (fun _ => ?_)
      · exact tX11_least_j53 X _ F S x1 x2 x3 x4 _ ih
      · refine j_iload 41 4 dX11_least_41 rfl ?_
        refine j_callS_pi 43  [.int x4] [] gX11_least_J6_bitCount_0f7a4 rfl eJ6_bitCount_0f7a4 ⟨Nat.le_of_ble_eq_true rfl, Nat.le_of_ble_eq_true rfl⟩ rfl rfl (Nat.le_of_ble_eq_true rfl) dX11_least_43 (kJ6_bitCount_0f7a4 S x4) (fun b_5 γ => ?_)
        refine j_iload_n 46 3 dX11_least_46 rfl rfl ?_
        refine j_callS_pi 47  [.int x3] [.int b_5] gX11_least_J6_bitCount_0f7a4 rfl eJ6_bitCount_0f7a4 ⟨Nat.le_of_ble_eq_true rfl, Nat.le_of_ble_eq_true rfl⟩ rfl rfl (Nat.le_of_ble_eq_true rfl) dX11_least_47 (kJ6_bitCount_0f7a4 S x3) (fun b_6 γ => ?_)
        refine j_icmp_ge 50 57 dX11_least_50 (by decide) (fun _ => ?_) (fun _ => ?_)
        · refine j_iconst (v := 0) 57 dX11_least_57 (by decide) ?_
          exact tX11_least_j58 X _ F S x1 x2 x3 x4 0 _ ih
        · exact tX11_least_j53 X _ F S x1 x2 x3 x4 _ ih
set_option maxRecDepth 100000 in
set_option maxHeartbeats 4000000 in
theorem tX11_least {ad : Nat → Nat → Nat} (X : Ctx) (γ : Nat → Nat) (F : Nat) (S : St) (p1 : Int32) (p2 : Int32) : JJ X ad γ (RQm X ad 5 120 outei) (fcm outei) 5 120 cX11_least 6 RX11 wsX11_least (some .int) (fX11_least F S p1 p2) S 0 [(0, .ref (ad 10 0)), (1, .int p1), (2, .int p2)] [] := by
  unfold fX11_least
  refine j_iload_n 0 1 dX11_least_0 rfl rfl ?_
  refine j_callS_pi 1  [.int p1] [] gX11_least_X11_isAct rfl eX11_isAct ⟨Nat.le_of_ble_eq_true rfl, Nat.le_of_ble_eq_true rfl⟩ rfl rfl (Nat.le_of_ble_eq_true rfl) dX11_least_1 (kX11_isAct S p1) (fun b_1 γ => ?_)
  refine j_if_eq 4 14 dX11_least_4 (by decide) (fun _ => ?_) (fun _ => ?_)
  · refine j_iconst (v := (-1)) 14 dX11_least_14 (by decide) ?_
    exact j_iret 15 rfl dX11_least_15
  · refine j_iload_n 7 2 dX11_least_7 rfl rfl ?_
    refine j_callS_pi 8  [.int p2] [] gX11_least_X11_isYear rfl eX11_isYear ⟨Nat.le_of_ble_eq_true rfl, Nat.le_of_ble_eq_true rfl⟩ rfl rfl (Nat.le_of_ble_eq_true rfl) dX11_least_8 (kX11_isYear S p2) (fun b_2 γ => ?_)
    refine j_if_ne 11 16 dX11_least_11 (by decide) (fun _ => ?_) (fun _ => ?_)
    · refine j_aload_n 16 0 dX11_least_16 rfl rfl ?_
      refine j_iload_n 17 2 dX11_least_17 rfl rfl ?_
      refine j_callV_ev 18 rfl (by decide) (prs_mem (by decide) (by decide))  [.int p2] [] gX11_least_X11_learn rfl eX11_learn ⟨Nat.le_of_ble_eq_true rfl, Nat.le_of_ble_eq_true rfl⟩ rfl rfl (Nat.le_of_ble_eq_true rfl) dX11_least_18 (kX11_learn F S p2) (fun b_3 γ => ?_)
      refine j_bipush (v := (-4)) 21 dX11_least_21 (by decide) ?_
      refine j_istore_n (lv2 := [(3, .int (-4)), (0, .ref (ad 10 0)), (1, .int p1), (2, .int p2)]) 23 dX11_least_23 rfl (by decide) rfl ?_
      refine j_iconst (v := 0) 24 dX11_least_24 (by decide) ?_
      refine j_istore (lv2 := [(4, .int 0), (3, .int (-4)), (0, .ref (ad 10 0)), (1, .int p1), (2, .int p2)]) 25 dX11_least_25 (by decide) rfl ?_
      refine j_sub [2, 3, 4, 1, 0] rfl ?_
      exact tX11_least_L27 X F b_3 p1 p2 F _ (-4) 0
    · refine j_iconst (v := (-1)) 14 dX11_least_14 (by decide) ?_
      exact j_iret 15 rfl dX11_least_15
set_option maxRecDepth 100000 in
set_option maxHeartbeats 4000000 in
theorem kX11_least {ad : Nat → Nat → Nat} (F : Nat) (S : St) (p1 : Int32) (p2 : Int32) : ∀ b, fX11_least F S p1 p2 = some b → ∀ l dC dI cy, CT l dC dI cy ad yX11_least wsX11_least 5 120 [.ref (ad 10 0), .int p1, .int p2] S (some (.int b.1)) b.2 :=
  fun b hb l dC dI cy => ct_of (l := l) (dC := dC) (dI := dI) (cy := cy) outei (by decide) rfl (Nat.le_of_ble_eq_true rfl) rfl (fun X γ => tX11_least X γ F S p1 p2) b hb
-- X11_doneBy
theorem nX11_doneBy_X10 : ∀ w ∈ u_ws RX10 TX10 8, w ∈ wsX11_doneBy := by decide +kernel
theorem nX11_doneBy_X11 : ∀ w ∈ u_ws RX11 TX11 9, w ∈ wsX11_doneBy := by decide +kernel
theorem wX11_doneBy_f12 : Cond.fieldLink RX11 12 "TwoTongues" "one" "LTwoTongues$Tongue;" ∈ wsX11_doneBy := by decide +kernel
theorem wX11_doneBy_f154 : Cond.fieldLink RX11 154 "TwoTongues$Tongue" "meaning" "[I" ∈ wsX11_doneBy := by decide +kernel
theorem wX11_doneBy_f16 : Cond.fieldLink RX11 16 "TwoTongues" "other" "LTwoTongues$Tongue;" ∈ wsX11_doneBy := by decide +kernel
set_option maxRecDepth 100000 in
set_option maxHeartbeats 4000000 in
theorem tX11_doneBy_j105 {ad : Nat → Nat → Nat} (X : Ctx) (γ : Nat → Nat) (F : Nat) (S : St) (x1 : Int32) (x2 : Int32) (x3 : Int32) (x4 : Int32) (x5 : Int32) (x6 : Int32) (rec : Int32 → Int32 → St → Option (Int32 × St))  (ih : ∀ (γ : Nat → Nat) (x4 : Int32) (x5 : Int32) (S : St), JJ X ad γ (RQm X ad 5 120 outei) (fcm outei) 5 120 cX11_doneBy 7 RX11 wsX11_doneBy (some .int) (rec x4 x5 S) S 47 [(0, .ref (ad 10 0)), (1, .int x1), (2, .int x2), (3, .int x3), (4, .int x4), (5, .int x5)] []) : JJ X ad γ (RQm X ad 5 120 outei) (fcm outei) 5 120 cX11_doneBy 7 RX11 wsX11_doneBy (some .int) (fX11_doneBy_j105 F S x1 x2 x3 x4 x5 x6 rec) S 105 [(0, .ref (ad 10 0)), (1, .int x1), (2, .int x2), (3, .int x3), (4, .int x4), (5, .int x5), (6, .int x6)] [] := by
  unfold fX11_doneBy_j105
  refine j_aload_n 105 0 dX11_doneBy_105 rfl rfl ?_
  refine j_getr (c2 := 9) (n2 := 0) 106 0 nX11_doneBy_X11 rfl (by decide) (prs_mem (by decide) (by decide)) (by decide) (by decide) wX11_doneBy_f12 (Or.inl rfl) rfl rfl rfl dX11_doneBy_106 ?_
  refine j_getr (c2 := 52) (n2 := 0) 109 7 nX11_doneBy_X10 rfl (by decide) (prs_mem (by decide) (by decide)) (by decide) (by decide) wX11_doneBy_f154 (Or.inl rfl) rfl rfl rfl dX11_doneBy_109 ?_
  refine j_iload 112 5 dX11_doneBy_112 rfl ?_
  refine j_iload 114 6 dX11_doneBy_114 rfl ?_
  refine j_iast (c := 52) (n := 0) (L := 8) 116 (prs_mem (by decide) (by decide)) (by decide) rfl rfl rfl dX11_doneBy_116 (j_bs (fun S_9 => ?_))
  refine j_iinc (v := x5 + 1) (lv2 := [(5, .int (x5 + 1)), (0, .ref (ad 10 0)), (1, .int x1), (2, .int x2), (3, .int x3), (4, .int x4), (6, .int x6)]) 117 5 dX11_doneBy_117 rfl rfl (by decide) rfl ?_
  refine j_goto 120 47 dX11_doneBy_120 (by decide) ?_
  refine j_sub [1, 2, 3, 4, 5, 0] rfl ?_
  exact ih _ x4 (x5 + 1) S_9
set_option maxRecDepth 100000 in
set_option maxHeartbeats 4000000 in
theorem tX11_doneBy_L47 {ad : Nat → Nat → Nat} (X : Ctx) (F : Nat) (x1 : Int32) (x2 : Int32) (x3 : Int32)   : ∀ (n : Nat) (γ : Nat → Nat) (x4 : Int32) (x5 : Int32) (S : St), JJ X ad γ (RQm X ad 5 120 outei) (fcm outei) 5 120 cX11_doneBy 7 RX11 wsX11_doneBy (some .int) (fX11_doneBy_L47 F x1 x2 x3 n x4 x5 S) S 47 [(0, .ref (ad 10 0)), (1, .int x1), (2, .int x2), (3, .int x3), (4, .int x4), (5, .int x5)] [] := by
  intro n
  induction n with
  | zero => intro _ _ _ _; exact j_none
  | succ n ih =>
    intro γ x4 x5 S
    rw [show fX11_doneBy_L47 F x1 x2 x3 (n + 1) x4 x5 S = fX11_doneBy_b47 F x1 x2 x3 (fX11_doneBy_L47 F x1 x2 x3 n) x4 x5 S from rfl]
    unfold fX11_doneBy_b47
    refine j_iload 47 5 dX11_doneBy_47 rfl ?_
    refine j_bipush (v := 8) 49 dX11_doneBy_49 (by decide) ?_
    refine j_icmp_ge 51 123 dX11_doneBy_51 (by decide) (fun _ => ?_) (fun _ => ?_)
    · refine j_iload 123 4 dX11_doneBy_123 rfl ?_
      exact j_iret 125 rfl dX11_doneBy_125
    · refine j_aload_n 54 0 dX11_doneBy_54 rfl rfl ?_
      refine j_getr (c2 := 9) (n2 := 0) 55 0 nX11_doneBy_X11 rfl (by decide) (prs_mem (by decide) (by decide)) (by decide) (by decide) wX11_doneBy_f12 (Or.inl rfl) rfl rfl rfl dX11_doneBy_55 ?_
      refine j_getr (c2 := 52) (n2 := 0) 58 7 nX11_doneBy_X10 rfl (by decide) (prs_mem (by decide) (by decide)) (by decide) (by decide) wX11_doneBy_f154 (Or.inl rfl) rfl rfl rfl dX11_doneBy_58 ?_
      refine j_iload 61 5 dX11_doneBy_61 rfl ?_
      refine j_iald (c := 52) (n := 0) (L := 8) 63 (prs_mem (by decide) (by decide)) (by decide) rfl rfl rfl dX11_doneBy_63 ?_
      refine j_bndi (fun x6_6 => ?_)
      refine j_istore (lv2 := [(6, .int x6_6), (0, .ref (ad 10 0)), (1, .int x1), (2, .int x2), (3, .int x3), (4, .int x4), (5, .int x5)]) 64 dX11_doneBy_64 (by decide) rfl ?_
      refine j_aload_n 66 1 dX11_doneBy_66 rfl rfl ?_
      refine j_getr (c2 := 9) (n2 := 0) 67 0 nX11_doneBy_X11 rfl (by decide) (prs_mem (by decide) (by decide)) (by decide) (by decide) wX11_doneBy_f12 (Or.inl rfl) rfl rfl rfl dX11_doneBy_67 ?_
      refine j_getr (c2 := 52) (n2 := 0) 70 7 nX11_doneBy_X10 rfl (by decide) (prs_mem (by decide) (by decide)) (by decide) (by decide) wX11_doneBy_f154 (Or.inl rfl) rfl rfl rfl dX11_doneBy_70 ?_
      refine j_iload 73 6 dX11_doneBy_73 rfl ?_
      refine j_aload_n 75 1 dX11_doneBy_75 rfl rfl ?_
      refine j_getr (c2 := 9) (n2 := 1) 76 1 nX11_doneBy_X11 rfl (by decide) (prs_mem (by decide) (by decide)) (by decide) (by decide) wX11_doneBy_f16 (Or.inl rfl) rfl rfl rfl dX11_doneBy_76 ?_
      refine j_getr (c2 := 52) (n2 := 1) 79 7 nX11_doneBy_X10 rfl (by decide) (prs_mem (by decide) (by decide)) (by decide) (by decide) wX11_doneBy_f154 (Or.inl rfl) rfl rfl rfl dX11_doneBy_79 ?_
      refine j_iload 82 6 dX11_doneBy_82 rfl ?_
      refine j_iald (c := 52) (n := 1) (L := 8) 84 (prs_mem (by decide) (by decide)) (by decide) rfl rfl rfl dX11_doneBy_84 ?_
      refine j_iast (c := 52) (n := 0) (L := 8) 85 (prs_mem (by decide) (by decide)) (by decide) rfl rfl rfl dX11_doneBy_85 (j_bs (fun S_7 => ?_))
      refine j_aload_n 86 1 dX11_doneBy_86 rfl rfl ?_
      refine j_iload_n 87 2 dX11_doneBy_87 rfl rfl ?_
      refine j_iload_n 88 3 dX11_doneBy_88 rfl rfl ?_
      refine j_iload_n 89 4 dX11_doneBy_89 rfl rfl ?_
      refine j_callV_pi 90 rfl (by decide) (prs_mem (by decide) (by decide))  [.int x1, .int x2, .int x3] [] gX11_doneBy_X11_differ rfl eX11_differ ⟨Nat.le_of_ble_eq_true rfl, Nat.le_of_ble_eq_true rfl⟩ rfl rfl (Nat.le_of_ble_eq_true rfl) dX11_doneBy_90 (kX11_differ F S_7 x1 x2 x3) (fun b_8 γ => ?_)
      refine j_if_ne 93 105 dX11_doneBy_93 (by decide) (fun _ => ?_) (fun _ => ?_)
      · refine j_sub [1, 2, 3, 4, 5, 6, 0] rfl ?_
        exact tX11_doneBy_j105 X _ F S_7 x1 x2 x3 x4 x5 x6_6 _ ih
      · refine j_iload 96 5 dX11_doneBy_96 rfl ?_
        refine j_iconst (v := 1) 98 dX11_doneBy_98 (by decide) ?_
        refine j_iload 99 6 dX11_doneBy_99 rfl ?_
        refine j_ishl 101 dX11_doneBy_101 ?_
        refine j_ior 102 dX11_doneBy_102 ?_
        refine j_bndi (fun x4_10 => ?_)
        refine j_istore (lv2 := [(4, .int x4_10), (6, .int x6_6), (0, .ref (ad 10 0)), (1, .int x1), (2, .int x2), (3, .int x3), (5, .int x5)]) 103 dX11_doneBy_103 (by decide) rfl ?_
        refine j_sub [2, 3, 4, 5, 0, 6, 1] rfl ?_
        exact tX11_doneBy_j105 X _ F S_7 x1 x2 x3 x4_10 x5 x6_6 _ ih
set_option maxRecDepth 100000 in
set_option maxHeartbeats 4000000 in
theorem tX11_doneBy {ad : Nat → Nat → Nat} (X : Ctx) (γ : Nat → Nat) (F : Nat) (S : St) (p1 : Int32) (p2 : Int32) (p3 : Int32) : JJ X ad γ (RQm X ad 5 120 outei) (fcm outei) 5 120 cX11_doneBy 7 RX11 wsX11_doneBy (some .int) (fX11_doneBy F S p1 p2 p3) S 0 [(0, .ref (ad 10 0)), (1, .int p1), (2, .int p2), (3, .int p3)] [] := by
  unfold fX11_doneBy
  refine j_iload_n 0 1 dX11_doneBy_0 rfl rfl ?_
  refine j_callS_pi 1  [.int p1] [] gX11_doneBy_X11_isAct rfl eX11_isAct ⟨Nat.le_of_ble_eq_true rfl, Nat.le_of_ble_eq_true rfl⟩ rfl rfl (Nat.le_of_ble_eq_true rfl) dX11_doneBy_1 (kX11_isAct S p1) (fun b_1 γ => ?_)
  refine j_if_eq 4 21 dX11_doneBy_4 (by decide) (fun _ => ?_) (fun _ => ?_)
  · refine j_iconst (v := (-1)) 21 dX11_doneBy_21 (by decide) ?_
    exact j_iret 22 rfl dX11_doneBy_22
  · refine j_iload_n 7 2 dX11_doneBy_7 rfl rfl ?_
    refine j_callS_pi 8  [.int p2] [] gX11_doneBy_X11_isYear rfl eX11_isYear ⟨Nat.le_of_ble_eq_true rfl, Nat.le_of_ble_eq_true rfl⟩ rfl rfl (Nat.le_of_ble_eq_true rfl) dX11_doneBy_8 (kX11_isYear S p2) (fun b_2 γ => ?_)
    refine j_if_eq 11 21 dX11_doneBy_11 (by decide) (fun _ => ?_) (fun _ => ?_)
    · refine j_iconst (v := (-1)) 21 dX11_doneBy_21 (by decide) ?_
      exact j_iret 22 rfl dX11_doneBy_22
    · refine j_iload_n 14 3 dX11_doneBy_14 rfl rfl ?_
      refine j_callS_pi 15  [.int p3] [] gX11_doneBy_X11_isFactSet rfl eX11_isFactSet ⟨Nat.le_of_ble_eq_true rfl, Nat.le_of_ble_eq_true rfl⟩ rfl rfl (Nat.le_of_ble_eq_true rfl) dX11_doneBy_15 (kX11_isFactSet S p3) (fun b_3 γ => ?_)
      refine j_if_ne 18 23 dX11_doneBy_18 (by decide) (fun _ => ?_) (fun _ => ?_)
      · refine j_aload_n 23 0 dX11_doneBy_23 rfl rfl ?_
        refine j_iload_n 24 2 dX11_doneBy_24 rfl rfl ?_
        refine j_callV_ev 25 rfl (by decide) (prs_mem (by decide) (by decide))  [.int p2] [] gX11_doneBy_X11_learn rfl eX11_learn ⟨Nat.le_of_ble_eq_true rfl, Nat.le_of_ble_eq_true rfl⟩ rfl rfl (Nat.le_of_ble_eq_true rfl) dX11_doneBy_25 (kX11_learn F S p2) (fun b_4 γ => ?_)
        refine j_aload_n 28 0 dX11_doneBy_28 rfl rfl ?_
        refine j_iload_n 29 1 dX11_doneBy_29 rfl rfl ?_
        refine j_iload_n 30 2 dX11_doneBy_30 rfl rfl ?_
        refine j_iload_n 31 3 dX11_doneBy_31 rfl rfl ?_
        refine j_callV_pi 32 rfl (by decide) (prs_mem (by decide) (by decide))  [.int p1, .int p2, .int p3] [] gX11_doneBy_X11_differ rfl eX11_differ ⟨Nat.le_of_ble_eq_true rfl, Nat.le_of_ble_eq_true rfl⟩ rfl rfl (Nat.le_of_ble_eq_true rfl) dX11_doneBy_32 (kX11_differ F b_4 p1 p2 p3) (fun b_5 γ => ?_)
        refine j_if_ne 35 41 dX11_doneBy_35 (by decide) (fun _ => ?_) (fun _ => ?_)
        · refine j_iconst (v := 0) 41 dX11_doneBy_41 (by decide) ?_
          refine j_istore (lv2 := [(4, .int 0), (0, .ref (ad 10 0)), (1, .int p1), (2, .int p2), (3, .int p3)]) 42 dX11_doneBy_42 (by decide) rfl ?_
          refine j_iconst (v := 0) 44 dX11_doneBy_44 (by decide) ?_
          refine j_istore (lv2 := [(5, .int 0), (4, .int 0), (0, .ref (ad 10 0)), (1, .int p1), (2, .int p2), (3, .int p3)]) 45 dX11_doneBy_45 (by decide) rfl ?_
          refine j_sub [2, 3, 4, 5, 1, 0] rfl ?_
          exact tX11_doneBy_L47 X F p1 p2 p3 F _ 0 0 b_4
        · refine j_bipush (v := (-2)) 38 dX11_doneBy_38 (by decide) ?_
          exact j_iret 40 rfl dX11_doneBy_40
      · refine j_iconst (v := (-1)) 21 dX11_doneBy_21 (by decide) ?_
        exact j_iret 22 rfl dX11_doneBy_22
set_option maxRecDepth 100000 in
set_option maxHeartbeats 4000000 in
theorem kX11_doneBy {ad : Nat → Nat → Nat} (F : Nat) (S : St) (p1 : Int32) (p2 : Int32) (p3 : Int32) : ∀ b, fX11_doneBy F S p1 p2 p3 = some b → ∀ l dC dI cy, CT l dC dI cy ad yX11_doneBy wsX11_doneBy 5 120 [.ref (ad 10 0), .int p1, .int p2, .int p3] S (some (.int b.1)) b.2 :=
  fun b hb l dC dI cy => ct_of (l := l) (dC := dC) (dI := dI) (cy := cy) outei (by decide) rfl (Nat.le_of_ble_eq_true rfl) rfl (fun X γ => tX11_doneBy X γ F S p1 p2 p3) b hb
-- X11_person
theorem nX11_person_X11 : ∀ w ∈ u_ws RX11 TX11 9, w ∈ wsX11_person := by decide +kernel
theorem wX11_person_f22 : Cond.fieldLink RX11 22 "TwoTongues" "people" "LTwoTongues$People;" ∈ wsX11_person := by decide +kernel
set_option maxRecDepth 100000 in
set_option maxHeartbeats 4000000 in
theorem tX11_person_j70 {ad : Nat → Nat → Nat} (X : Ctx) (γ : Nat → Nat) (S : St) (x1 : Int32) (x2 : Int32) (x3 : Int32)   : JJ X ad γ (RQm X ad 4 89 outei) (fcm outei) 4 89 cX11_person 6 RX11 wsX11_person (some .int) (fX11_person_j70 S x1 x2 x3) S 70 [(0, .ref (ad 10 0)), (1, .int x1), (2, .int x2), (3, .int x3)] [] := by
  unfold fX11_person_j70
  refine j_aload_n 70 0 dX11_person_70 rfl rfl ?_
  refine j_getr (c2 := 6) (n2 := 0) 71 2 nX11_person_X11 rfl (by decide) (prs_mem (by decide) (by decide)) (by decide) (by decide) wX11_person_f22 (Or.inl rfl) rfl rfl rfl dX11_person_71 ?_
  refine j_iload_n 74 1 dX11_person_74 rfl rfl ?_
  refine j_iload_n 75 2 dX11_person_75 rfl rfl ?_
  refine j_iload_n 76 3 dX11_person_76 rfl rfl ?_
  refine j_callV_ei 77 rfl (by decide) (prs_mem (by decide) (by decide))  [.int x1, .int x2, .int x3] [] gX11_person_X7_add rfl eX7_add ⟨Nat.le_of_ble_eq_true rfl, Nat.le_of_ble_eq_true rfl⟩ rfl rfl (Nat.le_of_ble_eq_true rfl) dX11_person_77 (kX7_add S x1 x2 x3) (fun b_3 γ => ?_)
  exact j_iret 80 rfl dX11_person_80
set_option maxRecDepth 100000 in
set_option maxHeartbeats 4000000 in
theorem tX11_person_j49 {ad : Nat → Nat → Nat} (X : Ctx) (γ : Nat → Nat) (S : St) (x1 : Int32) (x2 : Int32) (x3 : Int32) (x4 : Int32) (s0 : Int32)   : JJ X ad γ (RQm X ad 4 89 outei) (fcm outei) 4 89 cX11_person 6 RX11 wsX11_person (some .int) (fX11_person_j49 S x1 x2 x3 x4 s0) S 49 [(0, .ref (ad 10 0)), (1, .int x1), (2, .int x2), (3, .int x3), (4, .int x4)] [.int s0] := by
  unfold fX11_person_j49
  refine j_istore (lv2 := [(5, .int s0), (0, .ref (ad 10 0)), (1, .int x1), (2, .int x2), (3, .int x3), (4, .int x4)]) 49 dX11_person_49 (by decide) rfl ?_
  refine j_iload_n 51 2 dX11_person_51 rfl rfl ?_
  refine j_callS_pi 52  [.int x1] [] gX11_person_X11_isYear rfl eX11_isYear ⟨Nat.le_of_ble_eq_true rfl, Nat.le_of_ble_eq_true rfl⟩ rfl rfl (Nat.le_of_ble_eq_true rfl) dX11_person_52 (kX11_isYear S x1) (fun b_2 γ => ?_)
  refine j_if_eq 55 68 dX11_person_55 (by decide) (fun _ => ?_) (fun _ => ?_)
  · refine j_iconst (v := (-1)) 68 dX11_person_68 (by decide) ?_
    exact j_iret 69 rfl dX11_person_69
  · refine j_iload 58 5 dX11_person_58 rfl ?_
    refine j_if_ne 60 70 dX11_person_60 (by decide) (fun _ => ?_) (fun _ => ?_)
    · refine j_sub [1, 2, 3, 4] rfl ?_
      exact tX11_person_j70 X _ S x1 x2 x3
    · refine j_iload 63 0 dX11_person_63 rfl ?_
      refine j_if_ne 65 70 dX11_person_65 (by decide) (fun _ => ?_) (fun _ => ?_)
      · refine j_sub [1, 2, 3, 4] rfl ?_
        exact tX11_person_j70 X _ S x1 x2 x3
      · refine j_iconst (v := (-1)) 68 dX11_person_68 (by decide) ?_
        exact j_iret 69 rfl dX11_person_69
set_option maxRecDepth 100000 in
set_option maxHeartbeats 4000000 in
theorem tX11_person_j48 {ad : Nat → Nat → Nat} (X : Ctx) (γ : Nat → Nat) (S : St) (x1 : Int32) (x2 : Int32) (x3 : Int32) (x4 : Int32)   : JJ X ad γ (RQm X ad 4 89 outei) (fcm outei) 4 89 cX11_person 6 RX11 wsX11_person (some .int) (fX11_person_j48 S x1 x2 x3 x4) S 48 [(0, .ref (ad 10 0)), (1, .int x1), (2, .int x2), (3, .int x3), (4, .int x4)] [] := by
  unfold fX11_person_j48
  refine j_iconst (v := 0) 48 dX11_person_48 (by decide) ?_
  exact tX11_person_j49 X _ S x1 x2 x3 x4 0
set_option maxRecDepth 100000 in
set_option maxHeartbeats 4000000 in
theorem tX11_person_j15 {ad : Nat → Nat → Nat} (X : Ctx) (γ : Nat → Nat) (S : St) (x1 : Int32) (x2 : Int32) (x3 : Int32) (s0 : Int32)   : JJ X ad γ (RQm X ad 4 89 outei) (fcm outei) 4 89 cX11_person 6 RX11 wsX11_person (some .int) (fX11_person_j15 S x1 x2 x3 s0) S 15 [(0, .ref (ad 10 0)), (1, .int x1), (2, .int x2), (3, .int x3)] [.int s0] := by
  unfold fX11_person_j15
  refine j_istore (lv2 := [(4, .int s0), (0, .ref (ad 10 0)), (1, .int x1), (2, .int x2), (3, .int x3)]) 15 dX11_person_15 (by decide) rfl ?_
  refine j_aload_n 17 1 dX11_person_17 rfl rfl ?_
  refine j_getr (c2 := 6) (n2 := 0) 18 2 nX11_person_X11 rfl (by decide) (prs_mem (by decide) (by decide)) (by decide) (by decide) wX11_person_f22 (Or.inl rfl) rfl rfl rfl dX11_person_18 ?_
  refine j_iload_n 21 3 dX11_person_21 rfl rfl ?_
  refine j_callV_pi 22 rfl (by decide) (prs_mem (by decide) (by decide))  [.int x2] [] gX11_person_X7_has rfl eX7_has ⟨Nat.le_of_ble_eq_true rfl, Nat.le_of_ble_eq_true rfl⟩ rfl rfl (Nat.le_of_ble_eq_true rfl) dX11_person_22 (kX7_has S x2) (fun b_1 γ => ?_)
  refine j_if_eq 25 48 dX11_person_25 (by decide) (fun _ => ?_) (fun _ => ?_)
  · refine j_sub [1, 2, 3, 4, 0] rfl ?_
    exact tX11_person_j48 X _ S x1 x2 x3 s0
  · refine j_aload_n 28 1 dX11_person_28 rfl rfl ?_
    refine j_getr (c2 := 6) (n2 := 0) 29 2 nX11_person_X11 rfl (by decide) (prs_mem (by decide) (by decide)) (by decide) (by decide) wX11_person_f22 (Or.inl rfl) rfl rfl rfl dX11_person_29 ?_
    refine j_iload_n 32 4 dX11_person_32 rfl rfl ?_
    refine j_callV_pi 33 rfl (by decide) (prs_mem (by decide) (by decide))  [.int x3] [] gX11_person_X7_has rfl eX7_has ⟨Nat.le_of_ble_eq_true rfl, Nat.le_of_ble_eq_true rfl⟩ rfl rfl (Nat.le_of_ble_eq_true rfl) dX11_person_33 (kX7_has S x3) (fun b_4 γ => ?_)
    refine j_if_eq 36 48 dX11_person_36 (by decide) (fun _ => ?_) (fun _ => ?_)
    · refine j_sub [1, 2, 3, 4, 0] rfl ?_
      exact tX11_person_j48 X _ S x1 x2 x3 s0
    · refine j_iload_n 39 3 dX11_person_39 rfl rfl ?_
      refine j_iload_n 40 4 dX11_person_40 rfl rfl ?_
      refine j_icmp_eq 41 48 dX11_person_41 (by decide) (fun _ => ?_) (fun _ => ?_)
      · refine j_sub [1, 2, 3, 4, 0] rfl ?_
        exact tX11_person_j48 X _ S x1 x2 x3 s0
      · refine j_iconst (v := 1) 44 dX11_person_44 (by decide) ?_
        refine j_goto 45 49 dX11_person_45 (by decide) ?_
        refine j_sub [1, 2, 3, 4, 0] rfl ?_
        exact tX11_person_j49 X _ S x1 x2 x3 s0 1
set_option maxRecDepth 100000 in
set_option maxHeartbeats 4000000 in
theorem tX11_person_j14 {ad : Nat → Nat → Nat} (X : Ctx) (γ : Nat → Nat) (S : St) (x1 : Int32) (x2 : Int32) (x3 : Int32)   : JJ X ad γ (RQm X ad 4 89 outei) (fcm outei) 4 89 cX11_person 6 RX11 wsX11_person (some .int) (fX11_person_j14 S x1 x2 x3) S 14 [(0, .ref (ad 10 0)), (1, .int x1), (2, .int x2), (3, .int x3)] [] := by
  unfold fX11_person_j14
  refine j_iconst (v := 0) 14 dX11_person_14 (by decide) ?_
  exact tX11_person_j15 X _ S x1 x2 x3 0
set_option maxRecDepth 100000 in
set_option maxHeartbeats 4000000 in
theorem tX11_person {ad : Nat → Nat → Nat} (X : Ctx) (γ : Nat → Nat) (S : St) (p1 : Int32) (p2 : Int32) (p3 : Int32) : JJ X ad γ (RQm X ad 4 89 outei) (fcm outei) 4 89 cX11_person 6 RX11 wsX11_person (some .int) (fX11_person S p1 p2 p3) S 0 [(0, .ref (ad 10 0)), (1, .int p1), (2, .int p2), (3, .int p3)] [] := by
  unfold fX11_person
  refine j_iload_n 0 2 dX11_person_0 rfl rfl ?_
  refine j_iconst (v := (-1)) 1 dX11_person_1 (by decide) ?_
  refine j_icmp_ne 2 14 dX11_person_2 (by decide) (fun _ => ?_) (fun _ => ?_)
  · exact tX11_person_j14 X _ S p1 p2 p3
  · refine j_iload_n 5 3 dX11_person_5 rfl rfl ?_
    refine j_iconst (v := (-1)) 6 dX11_person_6 (by decide) ?_
    refine j_icmp_ne 7 14 dX11_person_7 (by decide) (fun _ => ?_) (fun _ => ?_)
    · exact tX11_person_j14 X _ S p1 p2 p3
    · refine j_iconst (v := 1) 10 dX11_person_10 (by decide) ?_
      refine j_goto 11 15 dX11_person_11 (by decide) ?_
      exact tX11_person_j15 X _ S p1 p2 p3 1
set_option maxRecDepth 100000 in
set_option maxHeartbeats 4000000 in
theorem kX11_person {ad : Nat → Nat → Nat} (S : St) (p1 : Int32) (p2 : Int32) (p3 : Int32) : ∀ b, fX11_person S p1 p2 p3 = some b → ∀ l dC dI cy, CT l dC dI cy ad yX11_person wsX11_person 4 89 [.ref (ad 10 0), .int p1, .int p2, .int p3] S (some (.int b.1)) b.2 :=
  fun b hb l dC dI cy => ct_of (l := l) (dC := dC) (dI := dI) (cy := cy) outei (by decide) rfl (Nat.le_of_ble_eq_true rfl) rfl (fun X γ => tX11_person X γ S p1 p2 p3) b hb
-- X11_die
theorem nX11_die_X7 : ∀ w ∈ u_ws RX7 TX7 12, w ∈ wsX11_die := by decide +kernel
theorem nX11_die_X11 : ∀ w ∈ u_ws RX11 TX11 9, w ∈ wsX11_die := by decide +kernel
theorem wX11_die_f22 : Cond.fieldLink RX11 22 "TwoTongues" "people" "LTwoTongues$People;" ∈ wsX11_die := by decide +kernel
theorem wX11_die_f164 : Cond.fieldLink RX11 164 "TwoTongues$People" "dead" "[I" ∈ wsX11_die := by decide +kernel
theorem wX11_die_c167 : Cond.constant RX11 167 (1000000) ∈ wsX11_die := by decide +kernel
theorem wX11_die_f168 : Cond.fieldLink RX11 168 "TwoTongues$People" "born" "[I" ∈ wsX11_die := by decide +kernel
set_option maxRecDepth 100000 in
set_option maxHeartbeats 4000000 in
theorem tX11_die {ad : Nat → Nat → Nat} (X : Ctx) (γ : Nat → Nat) (S : St) (p1 : Int32) (p2 : Int32) : JJ X ad γ (RQm X ad 2 43 outei) (fcm outei) 2 43 cX11_die 3 RX11 wsX11_die (some .int) (fX11_die S p1 p2) S 0 [(0, .ref (ad 10 0)), (1, .int p1), (2, .int p2)] [] := by
  unfold fX11_die
  refine j_aload_n 0 0 dX11_die_0 rfl rfl ?_
  refine j_getr (c2 := 6) (n2 := 0) 1 2 nX11_die_X11 rfl (by decide) (prs_mem (by decide) (by decide)) (by decide) (by decide) wX11_die_f22 (Or.inl rfl) rfl rfl rfl dX11_die_1 ?_
  refine j_iload_n 4 1 dX11_die_4 rfl rfl ?_
  refine j_callV_pi 5 rfl (by decide) (prs_mem (by decide) (by decide))  [.int p1] [] gX11_die_X7_has rfl eX7_has ⟨Nat.le_of_ble_eq_true rfl, Nat.le_of_ble_eq_true rfl⟩ rfl rfl (Nat.le_of_ble_eq_true rfl) dX11_die_5 (kX7_has S p1) (fun b_1 γ => ?_)
  refine j_if_eq 8 18 dX11_die_8 (by decide) (fun _ => ?_) (fun _ => ?_)
  · refine j_iconst (v := (-1)) 18 dX11_die_18 (by decide) ?_
    exact j_iret 19 rfl dX11_die_19
  · refine j_iload_n 11 2 dX11_die_11 rfl rfl ?_
    refine j_callS_pi 12  [.int p2] [] gX11_die_X11_isYear rfl eX11_isYear ⟨Nat.le_of_ble_eq_true rfl, Nat.le_of_ble_eq_true rfl⟩ rfl rfl (Nat.le_of_ble_eq_true rfl) dX11_die_12 (kX11_isYear S p2) (fun b_2 γ => ?_)
    refine j_if_ne 15 20 dX11_die_15 (by decide) (fun _ => ?_) (fun _ => ?_)
    · refine j_aload_n 20 0 dX11_die_20 rfl rfl ?_
      refine j_getr (c2 := 6) (n2 := 0) 21 2 nX11_die_X11 rfl (by decide) (prs_mem (by decide) (by decide)) (by decide) (by decide) wX11_die_f22 (Or.inl rfl) rfl rfl rfl dX11_die_21 ?_
      refine j_getr (c2 := 35) (n2 := 0) 24 1 nX11_die_X7 rfl (by decide) (prs_mem (by decide) (by decide)) (by decide) (by decide) wX11_die_f164 (Or.inl rfl) rfl rfl rfl dX11_die_24 ?_
      refine j_iload_n 27 1 dX11_die_27 rfl rfl ?_
      refine j_iald (c := 35) (n := 0) (L := 30) 28 (prs_mem (by decide) (by decide)) (by decide) rfl rfl rfl dX11_die_28 ?_
      refine j_ldc (v := 1000000) 29 dX11_die_29 wX11_die_c167 ?_
      refine j_icmp_ne 31 47 dX11_die_31 (by decide) (fun _ => ?_) (fun _ => ?_)
      · refine j_bipush (v := (-2)) 47 dX11_die_47 (by decide) ?_
        exact j_iret 49 rfl dX11_die_49
      · refine j_iload_n 34 2 dX11_die_34 rfl rfl ?_
        refine j_aload_n 35 0 dX11_die_35 rfl rfl ?_
        refine j_getr (c2 := 6) (n2 := 0) 36 2 nX11_die_X11 rfl (by decide) (prs_mem (by decide) (by decide)) (by decide) (by decide) wX11_die_f22 (Or.inl rfl) rfl rfl rfl dX11_die_36 ?_
        refine j_getr (c2 := 34) (n2 := 0) 39 0 nX11_die_X7 rfl (by decide) (prs_mem (by decide) (by decide)) (by decide) (by decide) wX11_die_f168 (Or.inl rfl) rfl rfl rfl dX11_die_39 ?_
        refine j_iload_n 42 1 dX11_die_42 rfl rfl ?_
        refine j_iald (c := 34) (n := 0) (L := 30) 43 (prs_mem (by decide) (by decide)) (by decide) rfl rfl rfl dX11_die_43 ?_
        refine j_icmp_ge 44 50 dX11_die_44 (by decide) (fun _ => ?_) (fun _ => ?_)
        · refine j_aload_n 50 0 dX11_die_50 rfl rfl ?_
          refine j_getr (c2 := 6) (n2 := 0) 51 2 nX11_die_X11 rfl (by decide) (prs_mem (by decide) (by decide)) (by decide) (by decide) wX11_die_f22 (Or.inl rfl) rfl rfl rfl dX11_die_51 ?_
          refine j_getr (c2 := 35) (n2 := 0) 54 1 nX11_die_X7 rfl (by decide) (prs_mem (by decide) (by decide)) (by decide) (by decide) wX11_die_f164 (Or.inl rfl) rfl rfl rfl dX11_die_54 ?_
          refine j_iload_n 57 1 dX11_die_57 rfl rfl ?_
          refine j_iload_n 58 2 dX11_die_58 rfl rfl ?_
          refine j_iast (c := 35) (n := 0) (L := 30) 59 (prs_mem (by decide) (by decide)) (by decide) rfl rfl rfl dX11_die_59 (j_bs (fun S_3 => ?_))
          refine j_iconst (v := 0) 60 dX11_die_60 (by decide) ?_
          exact j_iret 61 rfl dX11_die_61
        · refine j_bipush (v := (-2)) 47 dX11_die_47 (by decide) ?_
          exact j_iret 49 rfl dX11_die_49
    · refine j_iconst (v := (-1)) 18 dX11_die_18 (by decide) ?_
      exact j_iret 19 rfl dX11_die_19
set_option maxRecDepth 100000 in
set_option maxHeartbeats 4000000 in
theorem kX11_die {ad : Nat → Nat → Nat} (S : St) (p1 : Int32) (p2 : Int32) : ∀ b, fX11_die S p1 p2 = some b → ∀ l dC dI cy, CT l dC dI cy ad yX11_die wsX11_die 2 43 [.ref (ad 10 0), .int p1, .int p2] S (some (.int b.1)) b.2 :=
  fun b hb l dC dI cy => ct_of (l := l) (dC := dC) (dI := dI) (cy := cy) outei (by decide) rfl (Nat.le_of_ble_eq_true rfl) rfl (fun X γ => tX11_die X γ S p1 p2) b hb
-- X11_isKin
set_option maxRecDepth 100000 in
set_option maxHeartbeats 4000000 in
theorem tX11_isKin {ad : Nat → Nat → Nat} (X : Ctx) (γ : Nat → Nat) (S : St) (p0 : Int32) : JJ X ad γ (RQm X ad 1 22 (outpi S)) (fcm (outpi S)) 1 22 cX11_isKin 1 RX11 wsX11_isKin (some .boolean) (fX11_isKin S p0) S 0 [(0, .int p0)] [] := by
  unfold fX11_isKin
  refine j_iload_n 0 0 dX11_isKin_0 rfl rfl ?_
  refine j_iconst (v := 0) 1 dX11_isKin_1 (by decide) ?_
  refine j_bipush (v := 9) 2 dX11_isKin_2 (by decide) ?_
  refine j_callS_pi 4  [.int p0, .int 0, .int 9] [] gX11_isKin_X11_within rfl eX11_within ⟨Nat.le_of_ble_eq_true rfl, Nat.le_of_ble_eq_true rfl⟩ rfl rfl (Nat.le_of_ble_eq_true rfl) dX11_isKin_4 (kX11_within S p0 0 9) (fun b_1 γ => ?_)
  refine j_gd (fun hz => ?_)
  exact j_zret 7 (isB_nar hz) rfl dX11_isKin_7
set_option maxRecDepth 100000 in
set_option maxHeartbeats 4000000 in
theorem kX11_isKin {ad : Nat → Nat → Nat} (S : St) (p0 : Int32) : ∀ b, fX11_isKin S p0 = some b → ∀ l dC dI cy, CT l dC dI cy ad yX11_isKin wsX11_isKin 1 22 [.int p0] S (some (.int b)) S :=
  fun b hb l dC dI cy => ct_of (l := l) (dC := dC) (dI := dI) (cy := cy) (outpi S) (by decide) rfl (Nat.le_of_ble_eq_true rfl) rfl (fun X γ => tX11_isKin X γ S p0) b hb
-- X11_founder
theorem nX11_founder_X11 : ∀ w ∈ u_ws RX11 TX11 9, w ∈ wsX11_founder := by decide +kernel
theorem wX11_founder_f22 : Cond.fieldLink RX11 22 "TwoTongues" "people" "LTwoTongues$People;" ∈ wsX11_founder := by decide +kernel
set_option maxRecDepth 100000 in
set_option maxHeartbeats 4000000 in
theorem tX11_founder {ad : Nat → Nat → Nat} (X : Ctx) (γ : Nat → Nat) (F : Nat) (S : St) (p1 : Int32) (p2 : Int32) : JJ X ad γ (RQm X ad 4 90 outei) (fcm outei) 4 90 cX11_founder 3 RX11 wsX11_founder (some .int) (fX11_founder F S p1 p2) S 0 [(0, .ref (ad 10 0)), (1, .int p1), (2, .int p2)] [] := by
  unfold fX11_founder
  refine j_aload_n 0 0 dX11_founder_0 rfl rfl ?_
  refine j_getr (c2 := 6) (n2 := 0) 1 2 nX11_founder_X11 rfl (by decide) (prs_mem (by decide) (by decide)) (by decide) (by decide) wX11_founder_f22 (Or.inl rfl) rfl rfl rfl dX11_founder_1 ?_
  refine j_iload_n 4 1 dX11_founder_4 rfl rfl ?_
  refine j_callV_pi 5 rfl (by decide) (prs_mem (by decide) (by decide))  [.int p1] [] gX11_founder_X7_has rfl eX7_has ⟨Nat.le_of_ble_eq_true rfl, Nat.le_of_ble_eq_true rfl⟩ rfl rfl (Nat.le_of_ble_eq_true rfl) dX11_founder_5 (kX7_has S p1) (fun b_1 γ => ?_)
  refine j_if_eq 8 18 dX11_founder_8 (by decide) (fun _ => ?_) (fun _ => ?_)
  · refine j_iconst (v := (-1)) 18 dX11_founder_18 (by decide) ?_
    exact j_iret 19 rfl dX11_founder_19
  · refine j_iload_n 11 2 dX11_founder_11 rfl rfl ?_
    refine j_callS_pi 12  [.int p2] [] gX11_founder_X11_isKin rfl eX11_isKin ⟨Nat.le_of_ble_eq_true rfl, Nat.le_of_ble_eq_true rfl⟩ rfl rfl (Nat.le_of_ble_eq_true rfl) dX11_founder_12 (kX11_isKin S p2) (fun b_2 γ => ?_)
    refine j_if_ne 15 20 dX11_founder_15 (by decide) (fun _ => ?_) (fun _ => ?_)
    · refine j_aload_n 20 0 dX11_founder_20 rfl rfl ?_
      refine j_getr (c2 := 6) (n2 := 0) 21 2 nX11_founder_X11 rfl (by decide) (prs_mem (by decide) (by decide)) (by decide) (by decide) wX11_founder_f22 (Or.inl rfl) rfl rfl rfl dX11_founder_21 ?_
      refine j_iload_n 24 1 dX11_founder_24 rfl rfl ?_
      refine j_iload_n 25 2 dX11_founder_25 rfl rfl ?_
      refine j_callV_pi 26 rfl (by decide) (prs_mem (by decide) (by decide))  [.int p1, .int p2] [] gX11_founder_X7_isFounder rfl eX7_isFounder ⟨Nat.le_of_ble_eq_true rfl, Nat.le_of_ble_eq_true rfl⟩ rfl rfl (Nat.le_of_ble_eq_true rfl) dX11_founder_26 (kX7_isFounder S p1 p2) (fun b_3 γ => ?_)
      refine j_if_eq 29 35 dX11_founder_29 (by decide) (fun _ => ?_) (fun _ => ?_)
      · refine j_aload_n 35 0 dX11_founder_35 rfl rfl ?_
        refine j_getr (c2 := 6) (n2 := 0) 36 2 nX11_founder_X11 rfl (by decide) (prs_mem (by decide) (by decide)) (by decide) (by decide) wX11_founder_f22 (Or.inl rfl) rfl rfl rfl dX11_founder_36 ?_
        refine j_iload_n 39 1 dX11_founder_39 rfl rfl ?_
        refine j_iload_n 40 2 dX11_founder_40 rfl rfl ?_
        refine j_callV_ei 41 rfl (by decide) (prs_mem (by decide) (by decide))  [.int p1, .int p2] [] gX11_founder_X7_addFounder rfl eX7_addFounder ⟨Nat.le_of_ble_eq_true rfl, Nat.le_of_ble_eq_true rfl⟩ rfl rfl (Nat.le_of_ble_eq_true rfl) dX11_founder_41 (kX7_addFounder F S p1 p2) (fun b_4 γ => ?_)
        exact j_iret 44 rfl dX11_founder_44
      · refine j_bipush (v := (-2)) 32 dX11_founder_32 (by decide) ?_
        exact j_iret 34 rfl dX11_founder_34
    · refine j_iconst (v := (-1)) 18 dX11_founder_18 (by decide) ?_
      exact j_iret 19 rfl dX11_founder_19
set_option maxRecDepth 100000 in
set_option maxHeartbeats 4000000 in
theorem kX11_founder {ad : Nat → Nat → Nat} (F : Nat) (S : St) (p1 : Int32) (p2 : Int32) : ∀ b, fX11_founder F S p1 p2 = some b → ∀ l dC dI cy, CT l dC dI cy ad yX11_founder wsX11_founder 4 90 [.ref (ad 10 0), .int p1, .int p2] S (some (.int b.1)) b.2 :=
  fun b hb l dC dI cy => ct_of (l := l) (dC := dC) (dI := dI) (cy := cy) outei (by decide) rfl (Nat.le_of_ble_eq_true rfl) rfl (fun X γ => tX11_founder X γ F S p1 p2) b hb
-- X11_say
theorem nX11_say_X11 : ∀ w ∈ u_ws RX11 TX11 9, w ∈ wsX11_say := by decide +kernel
theorem wX11_say_f22 : Cond.fieldLink RX11 22 "TwoTongues" "people" "LTwoTongues$People;" ∈ wsX11_say := by decide +kernel
set_option maxRecDepth 100000 in
set_option maxHeartbeats 4000000 in
theorem tX11_say {ad : Nat → Nat → Nat} (X : Ctx) (γ : Nat → Nat) (S : St) (p1 : Int32) (p2 : Int32) (p3 : Int32) (p4 : Int32) : JJ X ad γ (RQm X ad 2 43 outei) (fcm outei) 2 43 cX11_say 5 RX11 wsX11_say (some .int) (fX11_say S p1 p2 p3 p4) S 0 [(0, .ref (ad 10 0)), (1, .int p1), (2, .int p2), (3, .int p3), (4, .int p4)] [] := by
  unfold fX11_say
  refine j_aload_n 0 0 dX11_say_0 rfl rfl ?_
  refine j_getr (c2 := 6) (n2 := 0) 1 2 nX11_say_X11 rfl (by decide) (prs_mem (by decide) (by decide)) (by decide) (by decide) wX11_say_f22 (Or.inl rfl) rfl rfl rfl dX11_say_1 ?_
  refine j_iload_n 4 1 dX11_say_4 rfl rfl ?_
  refine j_callV_pi 5 rfl (by decide) (prs_mem (by decide) (by decide))  [.int p1] [] gX11_say_X7_has rfl eX7_has ⟨Nat.le_of_ble_eq_true rfl, Nat.le_of_ble_eq_true rfl⟩ rfl rfl (Nat.le_of_ble_eq_true rfl) dX11_say_5 (kX7_has S p1) (fun b_1 γ => ?_)
  refine j_if_eq 8 34 dX11_say_8 (by decide) (fun _ => ?_) (fun _ => ?_)
  · refine j_iconst (v := (-1)) 34 dX11_say_34 (by decide) ?_
    exact j_iret 35 rfl dX11_say_35
  · refine j_aload_n 11 0 dX11_say_11 rfl rfl ?_
    refine j_getr (c2 := 6) (n2 := 0) 12 2 nX11_say_X11 rfl (by decide) (prs_mem (by decide) (by decide)) (by decide) (by decide) wX11_say_f22 (Or.inl rfl) rfl rfl rfl dX11_say_12 ?_
    refine j_iload_n 15 2 dX11_say_15 rfl rfl ?_
    refine j_callV_pi 16 rfl (by decide) (prs_mem (by decide) (by decide))  [.int p2] [] gX11_say_X7_has rfl eX7_has ⟨Nat.le_of_ble_eq_true rfl, Nat.le_of_ble_eq_true rfl⟩ rfl rfl (Nat.le_of_ble_eq_true rfl) dX11_say_16 (kX7_has S p2) (fun b_2 γ => ?_)
    refine j_if_eq 19 34 dX11_say_19 (by decide) (fun _ => ?_) (fun _ => ?_)
    · refine j_iconst (v := (-1)) 34 dX11_say_34 (by decide) ?_
      exact j_iret 35 rfl dX11_say_35
    · refine j_iload_n 22 1 dX11_say_22 rfl rfl ?_
      refine j_iload_n 23 2 dX11_say_23 rfl rfl ?_
      refine j_icmp_eq 24 34 dX11_say_24 (by decide) (fun _ => ?_) (fun _ => ?_)
      · refine j_iconst (v := (-1)) 34 dX11_say_34 (by decide) ?_
        exact j_iret 35 rfl dX11_say_35
      · refine j_iload_n 27 3 dX11_say_27 rfl rfl ?_
        refine j_callS_pi 28  [.int p3] [] gX11_say_X11_isKin rfl eX11_isKin ⟨Nat.le_of_ble_eq_true rfl, Nat.le_of_ble_eq_true rfl⟩ rfl rfl (Nat.le_of_ble_eq_true rfl) dX11_say_28 (kX11_isKin S p3) (fun b_3 γ => ?_)
        refine j_if_ne 31 36 dX11_say_31 (by decide) (fun _ => ?_) (fun _ => ?_)
        · refine j_aload_n 36 0 dX11_say_36 rfl rfl ?_
          refine j_getr (c2 := 6) (n2 := 0) 37 2 nX11_say_X11 rfl (by decide) (prs_mem (by decide) (by decide)) (by decide) (by decide) wX11_say_f22 (Or.inl rfl) rfl rfl rfl dX11_say_37 ?_
          refine j_iload_n 40 1 dX11_say_40 rfl rfl ?_
          refine j_iload_n 41 2 dX11_say_41 rfl rfl ?_
          refine j_iload_n 42 3 dX11_say_42 rfl rfl ?_
          refine j_iload 43 4 dX11_say_43 rfl ?_
          refine j_callV_ei 45 rfl (by decide) (prs_mem (by decide) (by decide))  [.int p1, .int p2, .int p3, .int p4] [] gX11_say_X7_addSaying rfl eX7_addSaying ⟨Nat.le_of_ble_eq_true rfl, Nat.le_of_ble_eq_true rfl⟩ rfl rfl (Nat.le_of_ble_eq_true rfl) dX11_say_45 (kX7_addSaying S p1 p2 p3 p4) (fun b_4 γ => ?_)
          exact j_iret 48 rfl dX11_say_48
        · refine j_iconst (v := (-1)) 34 dX11_say_34 (by decide) ?_
          exact j_iret 35 rfl dX11_say_35
set_option maxRecDepth 100000 in
set_option maxHeartbeats 4000000 in
theorem kX11_say {ad : Nat → Nat → Nat} (S : St) (p1 : Int32) (p2 : Int32) (p3 : Int32) (p4 : Int32) : ∀ b, fX11_say S p1 p2 p3 p4 = some b → ∀ l dC dI cy, CT l dC dI cy ad yX11_say wsX11_say 2 43 [.ref (ad 10 0), .int p1, .int p2, .int p3, .int p4] S (some (.int b.1)) b.2 :=
  fun b hb l dC dI cy => ct_of (l := l) (dC := dC) (dI := dI) (cy := cy) outei (by decide) rfl (Nat.le_of_ble_eq_true rfl) rfl (fun X γ => tX11_say X γ S p1 p2 p3 p4) b hb
-- X11_of
theorem nX11_of_X7 : ∀ w ∈ u_ws RX7 TX7 12, w ∈ wsX11_of := by decide +kernel
theorem nX11_of_X11 : ∀ w ∈ u_ws RX11 TX11 9, w ∈ wsX11_of := by decide +kernel
theorem wX11_of_f22 : Cond.fieldLink RX11 22 "TwoTongues" "people" "LTwoTongues$People;" ∈ wsX11_of := by decide +kernel
theorem wX11_of_f185 : Cond.fieldLink RX11 185 "TwoTongues$People" "kins" "[I" ∈ wsX11_of := by decide +kernel
set_option maxRecDepth 100000 in
set_option maxHeartbeats 4000000 in
theorem tX11_of {ad : Nat → Nat → Nat} (X : Ctx) (γ : Nat → Nat) (F : Nat) (S : St) (p1 : Int32) (p2 : Int32) : JJ X ad γ (RQm X ad 2 46 (outpi S)) (fcm (outpi S)) 2 46 cX11_of 3 RX11 wsX11_of (some .int) (fX11_of F S p1 p2) S 0 [(0, .ref (ad 10 0)), (1, .int p1), (2, .int p2)] [] := by
  unfold fX11_of
  refine j_aload_n 0 0 dX11_of_0 rfl rfl ?_
  refine j_getr (c2 := 6) (n2 := 0) 1 2 nX11_of_X11 rfl (by decide) (prs_mem (by decide) (by decide)) (by decide) (by decide) wX11_of_f22 (Or.inl rfl) rfl rfl rfl dX11_of_1 ?_
  refine j_iload_n 4 1 dX11_of_4 rfl rfl ?_
  refine j_callV_pi 5 rfl (by decide) (prs_mem (by decide) (by decide))  [.int p1] [] gX11_of_X7_has rfl eX7_has ⟨Nat.le_of_ble_eq_true rfl, Nat.le_of_ble_eq_true rfl⟩ rfl rfl (Nat.le_of_ble_eq_true rfl) dX11_of_5 (kX7_has S p1) (fun b_1 γ => ?_)
  refine j_if_eq 8 18 dX11_of_8 (by decide) (fun _ => ?_) (fun _ => ?_)
  · refine j_iconst (v := (-1)) 18 dX11_of_18 (by decide) ?_
    exact j_iret 19 rfl dX11_of_19
  · refine j_iload_n 11 2 dX11_of_11 rfl rfl ?_
    refine j_callS_pi 12  [.int p2] [] gX11_of_X11_isKin rfl eX11_isKin ⟨Nat.le_of_ble_eq_true rfl, Nat.le_of_ble_eq_true rfl⟩ rfl rfl (Nat.le_of_ble_eq_true rfl) dX11_of_12 (kX11_isKin S p2) (fun b_2 γ => ?_)
    refine j_if_ne 15 20 dX11_of_15 (by decide) (fun _ => ?_) (fun _ => ?_)
    · refine j_aload_n 20 0 dX11_of_20 rfl rfl ?_
      refine j_getr (c2 := 6) (n2 := 0) 21 2 nX11_of_X11 rfl (by decide) (prs_mem (by decide) (by decide)) (by decide) (by decide) wX11_of_f22 (Or.inl rfl) rfl rfl rfl dX11_of_21 ?_
      refine j_getr (c2 := 39) (n2 := 0) 24 5 nX11_of_X7 rfl (by decide) (prs_mem (by decide) (by decide)) (by decide) (by decide) wX11_of_f185 (Or.inl rfl) rfl rfl rfl dX11_of_24 ?_
      refine j_iload_n 27 1 dX11_of_27 rfl rfl ?_
      refine j_iald (c := 39) (n := 0) (L := 30) 28 (prs_mem (by decide) (by decide)) (by decide) rfl rfl rfl dX11_of_28 ?_
      refine j_iload_n 29 2 dX11_of_29 rfl rfl ?_
      refine j_callS_pi 30  [.int (gA S 39 0 p1.toNatClampNeg), .int p2] [] gX11_of_X11_hasBit rfl eX11_hasBit ⟨Nat.le_of_ble_eq_true rfl, Nat.le_of_ble_eq_true rfl⟩ rfl rfl (Nat.le_of_ble_eq_true rfl) dX11_of_30 (kX11_hasBit S (gA S 39 0 p1.toNatClampNeg) p2) (fun b_3 γ => ?_)
      refine j_if_eq 33 38 dX11_of_33 (by decide) (fun _ => ?_) (fun _ => ?_)
      · refine j_aload_n 38 0 dX11_of_38 rfl rfl ?_
        refine j_getr (c2 := 6) (n2 := 0) 39 2 nX11_of_X11 rfl (by decide) (prs_mem (by decide) (by decide)) (by decide) (by decide) wX11_of_f22 (Or.inl rfl) rfl rfl rfl dX11_of_39 ?_
        refine j_iload_n 42 1 dX11_of_42 rfl rfl ?_
        refine j_iload_n 43 2 dX11_of_43 rfl rfl ?_
        refine j_callV_pi 44 rfl (by decide) (prs_mem (by decide) (by decide))  [.int p1, .int p2] [] gX11_of_X7_isSaidToBe rfl eX7_isSaidToBe ⟨Nat.le_of_ble_eq_true rfl, Nat.le_of_ble_eq_true rfl⟩ rfl rfl (Nat.le_of_ble_eq_true rfl) dX11_of_44 (kX7_isSaidToBe F S p1 p2) (fun b_4 γ => ?_)
        refine j_if_eq 47 54 dX11_of_47 (by decide) (fun _ => ?_) (fun _ => ?_)
        · refine j_iconst (v := 0) 54 dX11_of_54 (by decide) ?_
          exact j_iret 55 rfl dX11_of_55
        · refine j_iconst (v := 1) 50 dX11_of_50 (by decide) ?_
          refine j_goto 51 55 dX11_of_51 (by decide) ?_
          exact j_iret 55 rfl dX11_of_55
      · refine j_iconst (v := 2) 36 dX11_of_36 (by decide) ?_
        exact j_iret 37 rfl dX11_of_37
    · refine j_iconst (v := (-1)) 18 dX11_of_18 (by decide) ?_
      exact j_iret 19 rfl dX11_of_19
set_option maxRecDepth 100000 in
set_option maxHeartbeats 4000000 in
theorem kX11_of {ad : Nat → Nat → Nat} (F : Nat) (S : St) (p1 : Int32) (p2 : Int32) : ∀ b, fX11_of F S p1 p2 = some b → ∀ l dC dI cy, CT l dC dI cy ad yX11_of wsX11_of 2 46 [.ref (ad 10 0), .int p1, .int p2] S (some (.int b)) S :=
  fun b hb l dC dI cy => ct_of (l := l) (dC := dC) (dI := dI) (cy := cy) (outpi S) (by decide) rfl (Nat.le_of_ble_eq_true rfl) rfl (fun X γ => tX11_of X γ F S p1 p2) b hb
-- X11_odds
theorem nX11_odds_X11 : ∀ w ∈ u_ws RX11 TX11 9, w ∈ wsX11_odds := by decide +kernel
theorem wX11_odds_f22 : Cond.fieldLink RX11 22 "TwoTongues" "people" "LTwoTongues$People;" ∈ wsX11_odds := by decide +kernel
set_option maxRecDepth 100000 in
set_option maxHeartbeats 4000000 in
theorem tX11_odds {ad : Nat → Nat → Nat} (X : Ctx) (γ : Nat → Nat) (F : Nat) (S : St) (p1 : Int32) (p2 : Int32) : JJ X ad γ (RQm X ad 2 49 (outpi S)) (fcm (outpi S)) 2 49 cX11_odds 3 RX11 wsX11_odds (some .int) (fX11_odds F S p1 p2) S 0 [(0, .ref (ad 10 0)), (1, .int p1), (2, .int p2)] [] := by
  unfold fX11_odds
  refine j_aload_n 0 0 dX11_odds_0 rfl rfl ?_
  refine j_getr (c2 := 6) (n2 := 0) 1 2 nX11_odds_X11 rfl (by decide) (prs_mem (by decide) (by decide)) (by decide) (by decide) wX11_odds_f22 (Or.inl rfl) rfl rfl rfl dX11_odds_1 ?_
  refine j_iload_n 4 1 dX11_odds_4 rfl rfl ?_
  refine j_callV_pi 5 rfl (by decide) (prs_mem (by decide) (by decide))  [.int p1] [] gX11_odds_X7_has rfl eX7_has ⟨Nat.le_of_ble_eq_true rfl, Nat.le_of_ble_eq_true rfl⟩ rfl rfl (Nat.le_of_ble_eq_true rfl) dX11_odds_5 (kX7_has S p1) (fun b_1 γ => ?_)
  refine j_if_eq 8 18 dX11_odds_8 (by decide) (fun _ => ?_) (fun _ => ?_)
  · refine j_iconst (v := (-1)) 18 dX11_odds_18 (by decide) ?_
    exact j_iret 19 rfl dX11_odds_19
  · refine j_iload_n 11 2 dX11_odds_11 rfl rfl ?_
    refine j_callS_pi 12  [.int p2] [] gX11_odds_X11_isKin rfl eX11_isKin ⟨Nat.le_of_ble_eq_true rfl, Nat.le_of_ble_eq_true rfl⟩ rfl rfl (Nat.le_of_ble_eq_true rfl) dX11_odds_12 (kX11_isKin S p2) (fun b_2 γ => ?_)
    refine j_if_ne 15 20 dX11_odds_15 (by decide) (fun _ => ?_) (fun _ => ?_)
    · refine j_aload_n 20 0 dX11_odds_20 rfl rfl ?_
      refine j_getr (c2 := 6) (n2 := 0) 21 2 nX11_odds_X11 rfl (by decide) (prs_mem (by decide) (by decide)) (by decide) (by decide) wX11_odds_f22 (Or.inl rfl) rfl rfl rfl dX11_odds_21 ?_
      refine j_iload_n 24 1 dX11_odds_24 rfl rfl ?_
      refine j_iload_n 25 2 dX11_odds_25 rfl rfl ?_
      refine j_callV_pi 26 rfl (by decide) (prs_mem (by decide) (by decide))  [.int p1, .int p2] [] gX11_odds_X7_pairsAtOdds rfl eX7_pairsAtOdds ⟨Nat.le_of_ble_eq_true rfl, Nat.le_of_ble_eq_true rfl⟩ rfl rfl (Nat.le_of_ble_eq_true rfl) dX11_odds_26 (kX7_pairsAtOdds F S p1 p2) (fun b_3 γ => ?_)
      exact j_iret 29 rfl dX11_odds_29
    · refine j_iconst (v := (-1)) 18 dX11_odds_18 (by decide) ?_
      exact j_iret 19 rfl dX11_odds_19
set_option maxRecDepth 100000 in
set_option maxHeartbeats 4000000 in
theorem kX11_odds {ad : Nat → Nat → Nat} (F : Nat) (S : St) (p1 : Int32) (p2 : Int32) : ∀ b, fX11_odds F S p1 p2 = some b → ∀ l dC dI cy, CT l dC dI cy ad yX11_odds wsX11_odds 2 49 [.ref (ad 10 0), .int p1, .int p2] S (some (.int b)) S :=
  fun b hb l dC dI cy => ct_of (l := l) (dC := dC) (dI := dI) (cy := cy) (outpi S) (by decide) rfl (Nat.le_of_ble_eq_true rfl) rfl (fun X γ => tX11_odds X γ F S p1 p2) b hb
-- X11_block
theorem nX11_block_X11 : ∀ w ∈ u_ws RX11 TX11 9, w ∈ wsX11_block := by decide +kernel
theorem wX11_block_c167 : Cond.constant RX11 167 (1000000) ∈ wsX11_block := by decide +kernel
theorem wX11_block_f29 : Cond.fieldLink RX11 29 "TwoTongues" "land" "LTwoTongues$Land;" ∈ wsX11_block := by decide +kernel
set_option maxRecDepth 100000 in
set_option maxHeartbeats 4000000 in
theorem tX11_block {ad : Nat → Nat → Nat} (X : Ctx) (γ : Nat → Nat) (S : St) (p1 : Int32) : JJ X ad γ (RQm X ad 1 22 outei) (fcm outei) 1 22 cX11_block 2 RX11 wsX11_block (some .int) (fX11_block S p1) S 0 [(0, .ref (ad 10 0)), (1, .int p1)] [] := by
  unfold fX11_block
  refine j_iload_n 0 1 dX11_block_0 rfl rfl ?_
  refine j_iconst (v := 1) 1 dX11_block_1 (by decide) ?_
  refine j_ldc (v := 1000000) 2 dX11_block_2 wX11_block_c167 ?_
  refine j_callS_pi 4  [.int p1, .int 1, .int 1000000] [] gX11_block_X11_within rfl eX11_within ⟨Nat.le_of_ble_eq_true rfl, Nat.le_of_ble_eq_true rfl⟩ rfl rfl (Nat.le_of_ble_eq_true rfl) dX11_block_4 (kX11_within S p1 1 1000000) (fun b_1 γ => ?_)
  refine j_if_ne 7 12 dX11_block_7 (by decide) (fun _ => ?_) (fun _ => ?_)
  · refine j_aload_n 12 0 dX11_block_12 rfl rfl ?_
    refine j_getr (c2 := 4) (n2 := 0) 13 3 nX11_block_X11 rfl (by decide) (prs_mem (by decide) (by decide)) (by decide) (by decide) wX11_block_f29 (Or.inl rfl) rfl rfl rfl dX11_block_13 ?_
    refine j_iload_n 16 1 dX11_block_16 rfl rfl ?_
    refine j_callV_ei 17 rfl (by decide) (prs_mem (by decide) (by decide))  [.int p1] [] gX11_block_X4_addBlock rfl eX4_addBlock ⟨Nat.le_of_ble_eq_true rfl, Nat.le_of_ble_eq_true rfl⟩ rfl rfl (Nat.le_of_ble_eq_true rfl) dX11_block_17 (kX4_addBlock S p1) (fun b_2 γ => ?_)
    exact j_iret 20 rfl dX11_block_20
  · refine j_iconst (v := (-1)) 10 dX11_block_10 (by decide) ?_
    exact j_iret 11 rfl dX11_block_11
set_option maxRecDepth 100000 in
set_option maxHeartbeats 4000000 in
theorem kX11_block {ad : Nat → Nat → Nat} (S : St) (p1 : Int32) : ∀ b, fX11_block S p1 = some b → ∀ l dC dI cy, CT l dC dI cy ad yX11_block wsX11_block 1 22 [.ref (ad 10 0), .int p1] S (some (.int b.1)) b.2 :=
  fun b hb l dC dI cy => ct_of (l := l) (dC := dC) (dI := dI) (cy := cy) outei (by decide) rfl (Nat.le_of_ble_eq_true rfl) rfl (fun X γ => tX11_block X γ S p1) b hb
-- X11_paper
theorem nX11_paper_X11 : ∀ w ∈ u_ws RX11 TX11 9, w ∈ wsX11_paper := by decide +kernel
theorem wX11_paper_f29 : Cond.fieldLink RX11 29 "TwoTongues" "land" "LTwoTongues$Land;" ∈ wsX11_paper := by decide +kernel
set_option maxRecDepth 100000 in
set_option maxHeartbeats 4000000 in
theorem tX11_paper {ad : Nat → Nat → Nat} (X : Ctx) (γ : Nat → Nat) (S : St) (p1 : Int32) (p2 : Int32) (p3 : Int32) : JJ X ad γ (RQm X ad 2 43 outei) (fcm outei) 2 43 cX11_paper 4 RX11 wsX11_paper (some .int) (fX11_paper S p1 p2 p3) S 0 [(0, .ref (ad 10 0)), (1, .int p1), (2, .int p2), (3, .int p3)] [] := by
  unfold fX11_paper
  refine j_aload_n 0 0 dX11_paper_0 rfl rfl ?_
  refine j_getr (c2 := 4) (n2 := 0) 1 3 nX11_paper_X11 rfl (by decide) (prs_mem (by decide) (by decide)) (by decide) (by decide) wX11_paper_f29 (Or.inl rfl) rfl rfl rfl dX11_paper_1 ?_
  refine j_iload_n 4 1 dX11_paper_4 rfl rfl ?_
  refine j_callV_pi 5 rfl (by decide) (prs_mem (by decide) (by decide))  [.int p1] [] gX11_paper_X4_has rfl eX4_has ⟨Nat.le_of_ble_eq_true rfl, Nat.le_of_ble_eq_true rfl⟩ rfl rfl (Nat.le_of_ble_eq_true rfl) dX11_paper_5 (kX4_has S p1) (fun b_1 γ => ?_)
  refine j_if_eq 8 28 dX11_paper_8 (by decide) (fun _ => ?_) (fun _ => ?_)
  · refine j_iconst (v := (-1)) 28 dX11_paper_28 (by decide) ?_
    exact j_iret 29 rfl dX11_paper_29
  · refine j_iload_n 11 2 dX11_paper_11 rfl rfl ?_
    refine j_iconst (v := (-1)) 12 dX11_paper_12 (by decide) ?_
    refine j_bipush (v := 9) 13 dX11_paper_13 (by decide) ?_
    refine j_callS_pi 15  [.int p2, .int (-1), .int 9] [] gX11_paper_X11_within rfl eX11_within ⟨Nat.le_of_ble_eq_true rfl, Nat.le_of_ble_eq_true rfl⟩ rfl rfl (Nat.le_of_ble_eq_true rfl) dX11_paper_15 (kX11_within S p2 (-1) 9) (fun b_2 γ => ?_)
    refine j_if_eq 18 28 dX11_paper_18 (by decide) (fun _ => ?_) (fun _ => ?_)
    · refine j_iconst (v := (-1)) 28 dX11_paper_28 (by decide) ?_
      exact j_iret 29 rfl dX11_paper_29
    · refine j_iload_n 21 3 dX11_paper_21 rfl rfl ?_
      refine j_callS_pi 22  [.int p3] [] gX11_paper_X11_isYear rfl eX11_isYear ⟨Nat.le_of_ble_eq_true rfl, Nat.le_of_ble_eq_true rfl⟩ rfl rfl (Nat.le_of_ble_eq_true rfl) dX11_paper_22 (kX11_isYear S p3) (fun b_3 γ => ?_)
      refine j_if_ne 25 30 dX11_paper_25 (by decide) (fun _ => ?_) (fun _ => ?_)
      · refine j_aload_n 30 0 dX11_paper_30 rfl rfl ?_
        refine j_getr (c2 := 4) (n2 := 0) 31 3 nX11_paper_X11 rfl (by decide) (prs_mem (by decide) (by decide)) (by decide) (by decide) wX11_paper_f29 (Or.inl rfl) rfl rfl rfl dX11_paper_31 ?_
        refine j_iload_n 34 1 dX11_paper_34 rfl rfl ?_
        refine j_iconst (v := 0) 35 dX11_paper_35 (by decide) ?_
        refine j_iload_n 36 2 dX11_paper_36 rfl rfl ?_
        refine j_iload_n 37 3 dX11_paper_37 rfl rfl ?_
        refine j_callV_ei 38 rfl (by decide) (prs_mem (by decide) (by decide))  [.int p1, .int 0, .int p2, .int p3] [] gX11_paper_X4_addHolding rfl eX4_addHolding ⟨Nat.le_of_ble_eq_true rfl, Nat.le_of_ble_eq_true rfl⟩ rfl rfl (Nat.le_of_ble_eq_true rfl) dX11_paper_38 (kX4_addHolding S p1 0 p2 p3) (fun b_4 γ => ?_)
        exact j_iret 41 rfl dX11_paper_41
      · refine j_iconst (v := (-1)) 28 dX11_paper_28 (by decide) ?_
        exact j_iret 29 rfl dX11_paper_29
set_option maxRecDepth 100000 in
set_option maxHeartbeats 4000000 in
theorem kX11_paper {ad : Nat → Nat → Nat} (S : St) (p1 : Int32) (p2 : Int32) (p3 : Int32) : ∀ b, fX11_paper S p1 p2 p3 = some b → ∀ l dC dI cy, CT l dC dI cy ad yX11_paper wsX11_paper 2 43 [.ref (ad 10 0), .int p1, .int p2, .int p3] S (some (.int b.1)) b.2 :=
  fun b hb l dC dI cy => ct_of (l := l) (dC := dC) (dI := dI) (cy := cy) outei (by decide) rfl (Nat.le_of_ble_eq_true rfl) rfl (fun X γ => tX11_paper X γ S p1 p2 p3) b hb
-- X11_use
theorem nX11_use_X11 : ∀ w ∈ u_ws RX11 TX11 9, w ∈ wsX11_use := by decide +kernel
theorem wX11_use_f29 : Cond.fieldLink RX11 29 "TwoTongues" "land" "LTwoTongues$Land;" ∈ wsX11_use := by decide +kernel
set_option maxRecDepth 100000 in
set_option maxHeartbeats 4000000 in
theorem tX11_use {ad : Nat → Nat → Nat} (X : Ctx) (γ : Nat → Nat) (S : St) (p1 : Int32) (p2 : Int32) (p3 : Int32) : JJ X ad γ (RQm X ad 2 43 outei) (fcm outei) 2 43 cX11_use 4 RX11 wsX11_use (some .int) (fX11_use S p1 p2 p3) S 0 [(0, .ref (ad 10 0)), (1, .int p1), (2, .int p2), (3, .int p3)] [] := by
  unfold fX11_use
  refine j_aload_n 0 0 dX11_use_0 rfl rfl ?_
  refine j_getr (c2 := 4) (n2 := 0) 1 3 nX11_use_X11 rfl (by decide) (prs_mem (by decide) (by decide)) (by decide) (by decide) wX11_use_f29 (Or.inl rfl) rfl rfl rfl dX11_use_1 ?_
  refine j_iload_n 4 1 dX11_use_4 rfl rfl ?_
  refine j_callV_pi 5 rfl (by decide) (prs_mem (by decide) (by decide))  [.int p1] [] gX11_use_X4_has rfl eX4_has ⟨Nat.le_of_ble_eq_true rfl, Nat.le_of_ble_eq_true rfl⟩ rfl rfl (Nat.le_of_ble_eq_true rfl) dX11_use_5 (kX4_has S p1) (fun b_1 γ => ?_)
  refine j_if_eq 8 29 dX11_use_8 (by decide) (fun _ => ?_) (fun _ => ?_)
  · refine j_iconst (v := (-1)) 29 dX11_use_29 (by decide) ?_
    exact j_iret 30 rfl dX11_use_30
  · refine j_iload_n 11 2 dX11_use_11 rfl rfl ?_
    refine j_iconst (v := 0) 12 dX11_use_12 (by decide) ?_
    refine j_sipush (v := 1023) 13 dX11_use_13 (by decide) ?_
    refine j_callS_pi 16  [.int p2, .int 0, .int 1023] [] gX11_use_X11_within rfl eX11_within ⟨Nat.le_of_ble_eq_true rfl, Nat.le_of_ble_eq_true rfl⟩ rfl rfl (Nat.le_of_ble_eq_true rfl) dX11_use_16 (kX11_within S p2 0 1023) (fun b_2 γ => ?_)
    refine j_if_eq 19 29 dX11_use_19 (by decide) (fun _ => ?_) (fun _ => ?_)
    · refine j_iconst (v := (-1)) 29 dX11_use_29 (by decide) ?_
      exact j_iret 30 rfl dX11_use_30
    · refine j_iload_n 22 3 dX11_use_22 rfl rfl ?_
      refine j_callS_pi 23  [.int p3] [] gX11_use_X11_isYear rfl eX11_isYear ⟨Nat.le_of_ble_eq_true rfl, Nat.le_of_ble_eq_true rfl⟩ rfl rfl (Nat.le_of_ble_eq_true rfl) dX11_use_23 (kX11_isYear S p3) (fun b_3 γ => ?_)
      refine j_if_ne 26 31 dX11_use_26 (by decide) (fun _ => ?_) (fun _ => ?_)
      · refine j_aload_n 31 0 dX11_use_31 rfl rfl ?_
        refine j_getr (c2 := 4) (n2 := 0) 32 3 nX11_use_X11 rfl (by decide) (prs_mem (by decide) (by decide)) (by decide) (by decide) wX11_use_f29 (Or.inl rfl) rfl rfl rfl dX11_use_32 ?_
        refine j_iload_n 35 1 dX11_use_35 rfl rfl ?_
        refine j_iconst (v := 1) 36 dX11_use_36 (by decide) ?_
        refine j_iload_n 37 2 dX11_use_37 rfl rfl ?_
        refine j_iload_n 38 3 dX11_use_38 rfl rfl ?_
        refine j_callV_ei 39 rfl (by decide) (prs_mem (by decide) (by decide))  [.int p1, .int 1, .int p2, .int p3] [] gX11_use_X4_addHolding rfl eX4_addHolding ⟨Nat.le_of_ble_eq_true rfl, Nat.le_of_ble_eq_true rfl⟩ rfl rfl (Nat.le_of_ble_eq_true rfl) dX11_use_39 (kX4_addHolding S p1 1 p2 p3) (fun b_4 γ => ?_)
        exact j_iret 42 rfl dX11_use_42
      · refine j_iconst (v := (-1)) 29 dX11_use_29 (by decide) ?_
        exact j_iret 30 rfl dX11_use_30
set_option maxRecDepth 100000 in
set_option maxHeartbeats 4000000 in
theorem kX11_use {ad : Nat → Nat → Nat} (S : St) (p1 : Int32) (p2 : Int32) (p3 : Int32) : ∀ b, fX11_use S p1 p2 p3 = some b → ∀ l dC dI cy, CT l dC dI cy ad yX11_use wsX11_use 2 43 [.ref (ad 10 0), .int p1, .int p2, .int p3] S (some (.int b.1)) b.2 :=
  fun b hb l dC dI cy => ct_of (l := l) (dC := dC) (dI := dI) (cy := cy) outei (by decide) rfl (Nat.le_of_ble_eq_true rfl) rfl (fun X γ => tX11_use X γ S p1 p2 p3) b hb
-- X11_holds
theorem nX11_holds_X11 : ∀ w ∈ u_ws RX11 TX11 9, w ∈ wsX11_holds := by decide +kernel
theorem wX11_holds_f29 : Cond.fieldLink RX11 29 "TwoTongues" "land" "LTwoTongues$Land;" ∈ wsX11_holds := by decide +kernel
set_option maxRecDepth 100000 in
set_option maxHeartbeats 4000000 in
theorem tX11_holds {ad : Nat → Nat → Nat} (X : Ctx) (γ : Nat → Nat) (F : Nat) (S : St) (p1 : Int32) (p2 : Int32) (p3 : Int32) : JJ X ad γ (RQm X ad 3 72 (outpi S)) (fcm (outpi S)) 3 72 cX11_holds 5 RX11 wsX11_holds (some .int) (fX11_holds F S p1 p2 p3) S 0 [(0, .ref (ad 10 0)), (1, .int p1), (2, .int p2), (3, .int p3)] [] := by
  unfold fX11_holds
  refine j_aload_n 0 0 dX11_holds_0 rfl rfl ?_
  refine j_getr (c2 := 4) (n2 := 0) 1 3 nX11_holds_X11 rfl (by decide) (prs_mem (by decide) (by decide)) (by decide) (by decide) wX11_holds_f29 (Or.inl rfl) rfl rfl rfl dX11_holds_1 ?_
  refine j_iload_n 4 1 dX11_holds_4 rfl rfl ?_
  refine j_callV_pi 5 rfl (by decide) (prs_mem (by decide) (by decide))  [.int p1] [] gX11_holds_X4_has rfl eX4_has ⟨Nat.le_of_ble_eq_true rfl, Nat.le_of_ble_eq_true rfl⟩ rfl rfl (Nat.le_of_ble_eq_true rfl) dX11_holds_5 (kX4_has S p1) (fun b_1 γ => ?_)
  refine j_if_eq 8 27 dX11_holds_8 (by decide) (fun _ => ?_) (fun _ => ?_)
  · refine j_iconst (v := (-1)) 27 dX11_holds_27 (by decide) ?_
    exact j_iret 28 rfl dX11_holds_28
  · refine j_iload_n 11 2 dX11_holds_11 rfl rfl ?_
    refine j_callS_pi 12  [.int p2] [] gX11_holds_X11_isYear rfl eX11_isYear ⟨Nat.le_of_ble_eq_true rfl, Nat.le_of_ble_eq_true rfl⟩ rfl rfl (Nat.le_of_ble_eq_true rfl) dX11_holds_12 (kX11_isYear S p2) (fun b_2 γ => ?_)
    refine j_if_eq 15 27 dX11_holds_15 (by decide) (fun _ => ?_) (fun _ => ?_)
    · refine j_iconst (v := (-1)) 27 dX11_holds_27 (by decide) ?_
      exact j_iret 28 rfl dX11_holds_28
    · refine j_iload_n 18 3 dX11_holds_18 rfl rfl ?_
      refine j_iconst (v := 0) 19 dX11_holds_19 (by decide) ?_
      refine j_iconst (v := 1) 20 dX11_holds_20 (by decide) ?_
      refine j_callS_pi 21  [.int p3, .int 0, .int 1] [] gX11_holds_X11_within rfl eX11_within ⟨Nat.le_of_ble_eq_true rfl, Nat.le_of_ble_eq_true rfl⟩ rfl rfl (Nat.le_of_ble_eq_true rfl) dX11_holds_21 (kX11_within S p3 0 1) (fun b_3 γ => ?_)
      refine j_if_ne 24 29 dX11_holds_24 (by decide) (fun _ => ?_) (fun _ => ?_)
      · refine j_iload_n 29 3 dX11_holds_29 rfl rfl ?_
        refine j_iconst (v := 1) 30 dX11_holds_30 (by decide) ?_
        refine j_icmp_ne 31 44 dX11_holds_31 (by decide) (fun _ => ?_) (fun _ => ?_)
        · refine j_aload_n 44 0 dX11_holds_44 rfl rfl ?_
          refine j_getr (c2 := 4) (n2 := 0) 45 3 nX11_holds_X11 rfl (by decide) (prs_mem (by decide) (by decide)) (by decide) (by decide) wX11_holds_f29 (Or.inl rfl) rfl rfl rfl dX11_holds_45 ?_
          refine j_iload_n 48 1 dX11_holds_48 rfl rfl ?_
          refine j_iload_n 49 2 dX11_holds_49 rfl rfl ?_
          refine j_callV_pi 50 rfl (by decide) (prs_mem (by decide) (by decide))  [.int p1, .int p2] [] gX11_holds_X4_ownerOf rfl eX4_ownerOf ⟨Nat.le_of_ble_eq_true rfl, Nat.le_of_ble_eq_true rfl⟩ rfl rfl (Nat.le_of_ble_eq_true rfl) dX11_holds_50 (kX4_ownerOf F S p1 p2) (fun b_4 γ => ?_)
          refine j_istore (lv2 := [(4, .int b_4), (0, .ref (ad 10 0)), (1, .int p1), (2, .int p2), (3, .int p3)]) 53 dX11_holds_53 (by decide) rfl ?_
          refine j_iload 55 0 dX11_holds_55 rfl ?_
          refine j_if_ge 57 65 dX11_holds_57 (by decide) (fun _ => ?_) (fun _ => ?_)
          · refine j_iload 65 0 dX11_holds_65 rfl ?_
            exact j_iret 67 rfl dX11_holds_67
          · refine j_bipush (v := (-4)) 60 dX11_holds_60 (by decide) ?_
            refine j_goto 62 67 dX11_holds_62 (by decide) ?_
            exact j_iret 67 rfl dX11_holds_67
        · refine j_aload_n 34 0 dX11_holds_34 rfl rfl ?_
          refine j_getr (c2 := 4) (n2 := 0) 35 3 nX11_holds_X11 rfl (by decide) (prs_mem (by decide) (by decide)) (by decide) (by decide) wX11_holds_f29 (Or.inl rfl) rfl rfl rfl dX11_holds_35 ?_
          refine j_iload_n 38 1 dX11_holds_38 rfl rfl ?_
          refine j_iload_n 39 2 dX11_holds_39 rfl rfl ?_
          refine j_callV_pi 40 rfl (by decide) (prs_mem (by decide) (by decide))  [.int p1, .int p2] [] gX11_holds_X4_usersOf rfl eX4_usersOf ⟨Nat.le_of_ble_eq_true rfl, Nat.le_of_ble_eq_true rfl⟩ rfl rfl (Nat.le_of_ble_eq_true rfl) dX11_holds_40 (kX4_usersOf F S p1 p2) (fun b_5 γ => ?_)
          exact j_iret 43 rfl dX11_holds_43
      · refine j_iconst (v := (-1)) 27 dX11_holds_27 (by decide) ?_
        exact j_iret 28 rfl dX11_holds_28
set_option maxRecDepth 100000 in
set_option maxHeartbeats 4000000 in
theorem kX11_holds {ad : Nat → Nat → Nat} (F : Nat) (S : St) (p1 : Int32) (p2 : Int32) (p3 : Int32) : ∀ b, fX11_holds F S p1 p2 p3 = some b → ∀ l dC dI cy, CT l dC dI cy ad yX11_holds wsX11_holds 3 72 [.ref (ad 10 0), .int p1, .int p2, .int p3] S (some (.int b)) S :=
  fun b hb l dC dI cy => ct_of (l := l) (dC := dC) (dI := dI) (cy := cy) (outpi S) (by decide) rfl (Nat.le_of_ble_eq_true rfl) rfl (fun X γ => tX11_holds X γ F S p1 p2 p3) b hb
