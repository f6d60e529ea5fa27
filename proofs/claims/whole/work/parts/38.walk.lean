-- X12_left
theorem nX12_left_X12 : ∀ w ∈ u_ws RX12 TX12 40, w ∈ wsX12_left := by decide +kernel
theorem wX12_left_f257 : Cond.fieldLink RX12 257 "TwoTonguesModel" "claimMany" "I" ∈ wsX12_left := by decide +kernel
theorem wX12_left_f61 : Cond.fieldLink RX12 61 "TwoTonguesModel" "claims" "[I" ∈ wsX12_left := by decide +kernel
theorem wX12_left_f193 : Cond.fieldLink RX12 193 "TwoTonguesModel" "blockMany" "I" ∈ wsX12_left := by decide +kernel
theorem wX12_left_f217 : Cond.fieldLink RX12 217 "TwoTonguesModel" "takingMany" "I" ∈ wsX12_left := by decide +kernel
theorem wX12_left_f52 : Cond.fieldLink RX12 52 "TwoTonguesModel" "takings" "[I" ∈ wsX12_left := by decide +kernel
theorem wX12_left_f43 : Cond.fieldLink RX12 43 "TwoTonguesModel" "worth" "[I" ∈ wsX12_left := by decide +kernel
set_option maxRecDepth 100000 in
set_option maxHeartbeats 4000000 in
theorem tX12_left_L57 {ad : Nat → Nat → Nat} (X : Ctx) (F : Nat) (S : St) (x2 : Int32) (x3 : Int32) (x4 : Int32) (x5 : Int32) (x6 : Int32) (k101 : Int32 → Option Int32)  (hk101 : ∀ (γ : Nat → Nat) (x7 : Int32), JJ X ad γ (RQm X ad 2 51 (outpi S)) (fcm (outpi S)) 2 51 cX12_left 9 RX12 wsX12_left (some .int) (k101 x7) S 101 [(0, .ref (ad 11 0)), (2, .int x2), (3, .int x3), (4, .int x4), (5, .int x5), (6, .int x6), (7, .int x7)] []) : ∀ (n : Nat) (γ : Nat → Nat) (x7 : Int32) (x8 : Int32), JJ X ad γ (RQm X ad 2 51 (outpi S)) (fcm (outpi S)) 2 51 cX12_left 9 RX12 wsX12_left (some .int) (fX12_left_L57 F S x2 x3 x4 x5 x6 k101 n x7 x8) S 57 [(0, .ref (ad 11 0)), (2, .int x2), (3, .int x3), (4, .int x4), (5, .int x5), (6, .int x6), (7, .int x7), (8, .int x8)] [] := by
  intro n
  induction n with
  | zero => intro _ _ _; exact j_none
  | succ n ih =>
    intro γ x7 x8
    rw [show fX12_left_L57 F S x2 x3 x4 x5 x6 k101 (n + 1) x7 x8 = fX12_left_b57 F S x2 x3 x4 x5 x6 k101 (fX12_left_L57 F S x2 x3 x4 x5 x6 k101 n) x7 x8 from rfl]
    unfold fX12_left_b57
    refine j_iload 57 7 dX12_left_57 rfl ?_
    refine j_aload_n 59 0 dX12_left_59 rfl rfl ?_
    refine j_geti 60 19 nX12_left_X12 rfl (by decide) (prs_mem (by decide) (by decide)) (by decide) (by decide) wX12_left_f217 (Or.inl rfl) rfl dX12_left_60 ?_
    refine j_icmp_ge 63 101 dX12_left_63 (by decide) (fun _ => ?_) (fun _ => ?_)
    · refine j_sub [0, 1, 2, 3, 4, 5, 6] rfl ?_
      exact hk101 _ x7
    · refine j_iload 66 6 dX12_left_66 rfl ?_
      refine j_aload_n 68 0 dX12_left_68 rfl rfl ?_
      refine j_getr (c2 := 67) (n2 := 0) 69 20 nX12_left_X12 rfl (by decide) (prs_mem (by decide) (by decide)) (by decide) (by decide) wX12_left_f52 (Or.inl rfl) rfl rfl rfl dX12_left_69 ?_
      refine j_iconst (v := 3) 72 dX12_left_72 (by decide) ?_
      refine j_iload 73 7 dX12_left_73 rfl ?_
      refine j_imul 75 dX12_left_75 ?_
      refine j_iald (c := 67) (n := 0) (L := 36) 76 (prs_mem (by decide) (by decide)) (by decide) rfl rfl rfl dX12_left_76 ?_
      refine j_iload 77 5 dX12_left_77 rfl ?_
      refine j_icmp_ne 79 91 dX12_left_79 (by decide) (fun _ => ?_) (fun _ => ?_)
      · refine j_iconst (v := 0) 91 dX12_left_91 (by decide) ?_
        refine j_ior 92 dX12_left_92 ?_
        refine j_bndi (fun x7_4 => ?_)
        refine j_istore (lv2 := [(7, .int x7_4), (0, .ref (ad 11 0)), (2, .int x2), (3, .int x3), (4, .int x4), (5, .int x5), (6, .int x6), (8, .int x8)]) 93 dX12_left_93 (by decide) rfl ?_
        refine j_iinc (v := x8 + 1) (lv2 := [(8, .int (x8 + 1)), (7, .int x7_4), (0, .ref (ad 11 0)), (2, .int x2), (3, .int x3), (4, .int x4), (5, .int x5), (6, .int x6)]) 95 7 dX12_left_95 rfl rfl (by decide) rfl ?_
        refine j_goto 98 57 dX12_left_98 (by decide) ?_
        refine j_sub [2, 3, 4, 5, 6, 7, 1, 0] rfl ?_
        exact ih _ x7_4 (x8 + 1)
      · refine j_aload_n 82 0 dX12_left_82 rfl rfl ?_
        refine j_iload 83 7 dX12_left_83 rfl ?_
        refine j_callV_pi 85 rfl (by decide) (prs_mem (by decide) (by decide))  [.int x8] [.int x7] gX12_left_X12_wrongedBy rfl eX12_wrongedBy ⟨Nat.le_of_ble_eq_true rfl, Nat.le_of_ble_eq_true rfl⟩ rfl rfl (Nat.le_of_ble_eq_true rfl) dX12_left_85 (kX12_wrongedBy F S x8) (fun b_5 γ => ?_)
        refine j_goto 88 92 dX12_left_88 (by decide) ?_
        refine j_ior 92 dX12_left_92 ?_
        refine j_bndi (fun x7_6 => ?_)
        refine j_istore (lv2 := [(7, .int x7_6), (0, .ref (ad 11 0)), (2, .int x2), (3, .int x3), (4, .int x4), (5, .int x5), (6, .int x6), (8, .int x8)]) 93 dX12_left_93 (by decide) rfl ?_
        refine j_iinc (v := x8 + 1) (lv2 := [(8, .int (x8 + 1)), (7, .int x7_6), (0, .ref (ad 11 0)), (2, .int x2), (3, .int x3), (4, .int x4), (5, .int x5), (6, .int x6)]) 95 7 dX12_left_95 rfl rfl (by decide) rfl ?_
        refine j_goto 98 57 dX12_left_98 (by decide) ?_
        refine j_sub [2, 3, 4, 5, 6, 7, 1, 0] rfl ?_
        exact ih _ x7_6 (x8 + 1)
set_option maxRecDepth 100000 in
set_option maxHeartbeats 4000000 in
theorem tX12_left_j140 {ad : Nat → Nat → Nat} (X : Ctx) (γ : Nat → Nat) (F : Nat) (S : St) (x2 : Int32) (x3 : Int32) (x4 : Int32) (x5 : Int32) (x6 : Int32) (s0 : Int32) (rec : Int32 → Int32 → Option Int32)  (ih : ∀ (γ : Nat → Nat) (x5 : Int32) (x6 : Int32), JJ X ad γ (RQm X ad 2 51 (outpi S)) (fcm (outpi S)) 2 51 cX12_left 9 RX12 wsX12_left (some .int) (rec x5 x6) S 42 [(0, .ref (ad 11 0)), (2, .int x2), (3, .int x3), (4, .int x4), (5, .int x5), (6, .int x6)] []) : JJ X ad γ (RQm X ad 2 51 (outpi S)) (fcm (outpi S)) 2 51 cX12_left 9 RX12 wsX12_left (some .int) (fX12_left_j140 F S x2 x3 x4 x5 x6 s0 rec) S 140 [(0, .ref (ad 11 0)), (2, .int x2), (3, .int x3), (4, .int x4), (5, .int x5), (6, .int x6)] [.int s0] := by
  unfold fX12_left_j140
  refine j_istore (lv2 := [(8, .int s0), (0, .ref (ad 11 0)), (2, .int x2), (3, .int x3), (4, .int x4), (5, .int x5), (6, .int x6)]) 140 dX12_left_140 (by decide) rfl ?_
  refine j_iload 142 5 dX12_left_142 rfl ?_
  refine j_iload 144 0 dX12_left_144 rfl ?_
  refine j_if_eq 146 159 dX12_left_146 (by decide) (fun _ => ?_) (fun _ => ?_)
  · refine j_iconst (v := 0) 159 dX12_left_159 (by decide) ?_
    refine j_iadd 160 dX12_left_160 ?_
    refine j_bndi (fun x5_9 => ?_)
    refine j_istore (lv2 := [(5, .int x5_9), (8, .int s0), (0, .ref (ad 11 0)), (2, .int x2), (3, .int x3), (4, .int x4), (6, .int x6)]) 161 dX12_left_161 (by decide) rfl ?_
    refine j_iinc (v := x6 + 1) (lv2 := [(6, .int (x6 + 1)), (5, .int x5_9), (8, .int s0), (0, .ref (ad 11 0)), (2, .int x2), (3, .int x3), (4, .int x4)]) 163 6 dX12_left_163 rfl rfl (by decide) rfl ?_
    refine j_goto 166 42 dX12_left_166 (by decide) ?_
    refine j_sub [3, 4, 5, 6, 1, 0] rfl ?_
    exact ih _ x5_9 (x6 + 1)
  · refine j_aload_n 149 1 dX12_left_149 rfl rfl ?_
    refine j_getr (c2 := 64) (n2 := 0) 150 14 nX12_left_X12 rfl (by decide) (prs_mem (by decide) (by decide)) (by decide) (by decide) wX12_left_f43 (Or.inl rfl) rfl rfl rfl dX12_left_150 ?_
    refine j_iload 153 6 dX12_left_153 rfl ?_
    refine j_iald (c := 64) (n := 0) (L := 12) 155 (prs_mem (by decide) (by decide)) (by decide) rfl rfl rfl dX12_left_155 ?_
    refine j_goto 156 160 dX12_left_156 (by decide) ?_
    refine j_iadd 160 dX12_left_160 ?_
    refine j_bndi (fun x5_10 => ?_)
    refine j_istore (lv2 := [(5, .int x5_10), (8, .int s0), (0, .ref (ad 11 0)), (2, .int x2), (3, .int x3), (4, .int x4), (6, .int x6)]) 161 dX12_left_161 (by decide) rfl ?_
    refine j_iinc (v := x6 + 1) (lv2 := [(6, .int (x6 + 1)), (5, .int x5_10), (8, .int s0), (0, .ref (ad 11 0)), (2, .int x2), (3, .int x3), (4, .int x4)]) 163 6 dX12_left_163 rfl rfl (by decide) rfl ?_
    refine j_goto 166 42 dX12_left_166 (by decide) ?_
    refine j_sub [3, 4, 5, 6, 1, 0] rfl ?_
    exact ih _ x5_10 (x6 + 1)
set_option maxRecDepth 100000 in
set_option maxHeartbeats 4000000 in
theorem tX12_left_j139 {ad : Nat → Nat → Nat} (X : Ctx) (γ : Nat → Nat) (F : Nat) (S : St) (x2 : Int32) (x3 : Int32) (x4 : Int32) (x5 : Int32) (x6 : Int32) (rec : Int32 → Int32 → Option Int32)  (ih : ∀ (γ : Nat → Nat) (x5 : Int32) (x6 : Int32), JJ X ad γ (RQm X ad 2 51 (outpi S)) (fcm (outpi S)) 2 51 cX12_left 9 RX12 wsX12_left (some .int) (rec x5 x6) S 42 [(0, .ref (ad 11 0)), (2, .int x2), (3, .int x3), (4, .int x4), (5, .int x5), (6, .int x6)] []) : JJ X ad γ (RQm X ad 2 51 (outpi S)) (fcm (outpi S)) 2 51 cX12_left 9 RX12 wsX12_left (some .int) (fX12_left_j139 F S x2 x3 x4 x5 x6 rec) S 139 [(0, .ref (ad 11 0)), (2, .int x2), (3, .int x3), (4, .int x4), (5, .int x5), (6, .int x6)] [] := by
  unfold fX12_left_j139
  refine j_iconst (v := 0) 139 dX12_left_139 (by decide) ?_
  exact tX12_left_j140 X _ F S x2 x3 x4 x5 x6 0 _ ih
set_option maxRecDepth 100000 in
set_option maxHeartbeats 4000000 in
theorem tX12_left_j135 {ad : Nat → Nat → Nat} (X : Ctx) (γ : Nat → Nat) (F : Nat) (S : St) (x2 : Int32) (x3 : Int32) (x4 : Int32) (x5 : Int32) (x6 : Int32) (rec : Int32 → Int32 → Option Int32)  (ih : ∀ (γ : Nat → Nat) (x5 : Int32) (x6 : Int32), JJ X ad γ (RQm X ad 2 51 (outpi S)) (fcm (outpi S)) 2 51 cX12_left 9 RX12 wsX12_left (some .int) (rec x5 x6) S 42 [(0, .ref (ad 11 0)), (2, .int x2), (3, .int x3), (4, .int x4), (5, .int x5), (6, .int x6)] []) : JJ X ad γ (RQm X ad 2 51 (outpi S)) (fcm (outpi S)) 2 51 cX12_left 9 RX12 wsX12_left (some .int) (fX12_left_j135 F S x2 x3 x4 x5 x6 rec) S 135 [(0, .ref (ad 11 0)), (2, .int x2), (3, .int x3), (4, .int x4), (5, .int x5), (6, .int x6)] [] := by
  unfold fX12_left_j135
  refine j_iconst (v := 1) 135 dX12_left_135 (by decide) ?_
  refine j_goto 136 140 dX12_left_136 (by decide) ?_
  exact tX12_left_j140 X _ F S x2 x3 x4 x5 x6 1 _ ih
set_option maxRecDepth 100000 in
set_option maxHeartbeats 4000000 in
theorem tX12_left_L42 {ad : Nat → Nat → Nat} (X : Ctx) (F : Nat) (S : St) (x2 : Int32) (x3 : Int32) (x4 : Int32)   : ∀ (n : Nat) (γ : Nat → Nat) (x5 : Int32) (x6 : Int32), JJ X ad γ (RQm X ad 2 51 (outpi S)) (fcm (outpi S)) 2 51 cX12_left 9 RX12 wsX12_left (some .int) (fX12_left_L42 F S x2 x3 x4 n x5 x6) S 42 [(0, .ref (ad 11 0)), (2, .int x2), (3, .int x3), (4, .int x4), (5, .int x5), (6, .int x6)] [] := by
  intro n
  induction n with
  | zero => intro _ _ _; exact j_none
  | succ n ih =>
    intro γ x5 x6
    rw [show fX12_left_L42 F S x2 x3 x4 (n + 1) x5 x6 = fX12_left_b42 F S x2 x3 x4 (fX12_left_L42 F S x2 x3 x4 n) x5 x6 from rfl]
    unfold fX12_left_b42
    refine j_iload 42 5 dX12_left_42 rfl ?_
    refine j_aload_n 44 0 dX12_left_44 rfl rfl ?_
    refine j_geti 45 13 nX12_left_X12 rfl (by decide) (prs_mem (by decide) (by decide)) (by decide) (by decide) wX12_left_f193 (Or.inl rfl) rfl dX12_left_45 ?_
    refine j_icmp_ge 48 169 dX12_left_48 (by decide) (fun _ => ?_) (fun _ => ?_)
    · refine j_iload 169 4 dX12_left_169 rfl ?_
      exact j_iret 171 rfl dX12_left_171
    · refine j_iconst (v := 0) 51 dX12_left_51 (by decide) ?_
      refine j_istore (lv2 := [(7, .int 0), (0, .ref (ad 11 0)), (2, .int x2), (3, .int x3), (4, .int x4), (5, .int x5), (6, .int x6)]) 52 dX12_left_52 (by decide) rfl ?_
      refine j_iconst (v := 0) 54 dX12_left_54 (by decide) ?_
      refine j_istore (lv2 := [(8, .int 0), (7, .int 0), (0, .ref (ad 11 0)), (2, .int x2), (3, .int x3), (4, .int x4), (5, .int x5), (6, .int x6)]) 55 dX12_left_55 (by decide) rfl ?_
      refine j_sub [2, 3, 4, 5, 6, 7, 1, 0] rfl ?_
      refine tX12_left_L57 X F S x2 x3 x4 x5 x6 _ (fun γ x7_7 => ?_) F _ 0 0
      refine j_iload 101 6 dX12_left_101 rfl ?_
      refine j_iload 103 3 dX12_left_103 rfl ?_
      refine j_callS_pi 105  [.int x7_7, .int x4] [] gX12_left_X12_has rfl eX12_has ⟨Nat.le_of_ble_eq_true rfl, Nat.le_of_ble_eq_true rfl⟩ rfl rfl (Nat.le_of_ble_eq_true rfl) dX12_left_105 (kX12_has S x7_7 x4) (fun b_8 γ => ?_)
      refine j_if_eq 108 139 dX12_left_108 (by decide) (fun _ => ?_) (fun _ => ?_)
      · refine j_sub [0, 1, 2, 3, 4, 5] rfl ?_
        exact tX12_left_j139 X _ F S x2 x3 x4 x5 x6 _ ih
      · refine j_aload_n 111 0 dX12_left_111 rfl rfl ?_
        refine j_iload 112 5 dX12_left_112 rfl ?_
        refine j_iload_n 114 1 dX12_left_114 rfl rfl ?_
        refine j_iconst (v := 0) 115 dX12_left_115 (by decide) ?_
        refine j_callV_pi 116 rfl (by decide) (prs_mem (by decide) (by decide))  [.int x6, .int x2, .int 0] [] gX12_left_X12_heldBy rfl eX12_heldBy ⟨Nat.le_of_ble_eq_true rfl, Nat.le_of_ble_eq_true rfl⟩ rfl rfl (Nat.le_of_ble_eq_true rfl) dX12_left_116 (kX12_heldBy F S x6 x2 0) (fun b_11 γ => ?_)
        refine j_if_ge 119 139 dX12_left_119 (by decide) (fun _ => ?_) (fun _ => ?_)
        · refine j_sub [0, 1, 2, 3, 4, 5] rfl ?_
          exact tX12_left_j139 X _ F S x2 x3 x4 x5 x6 _ ih
        · refine j_iload_n 122 2 dX12_left_122 rfl rfl ?_
          refine j_if_eq 123 135 dX12_left_123 (by decide) (fun _ => ?_) (fun _ => ?_)
          · refine j_sub [0, 1, 2, 3, 4, 5] rfl ?_
            exact tX12_left_j135 X _ F S x2 x3 x4 x5 x6 _ ih
          · refine j_iload 126 6 dX12_left_126 rfl ?_
            refine j_iconst (v := 1) 128 dX12_left_128 (by decide) ?_
            refine j_iload 129 3 dX12_left_129 rfl ?_
            refine j_ishl 131 dX12_left_131 ?_
            refine j_icmp_ne 132 139 dX12_left_132 (by decide) (fun _ => ?_) (fun _ => ?_)
            · refine j_sub [0, 1, 2, 3, 4, 5] rfl ?_
              exact tX12_left_j139 X _ F S x2 x3 x4 x5 x6 _ ih
            · refine j_sub [0, 1, 2, 3, 4, 5] rfl ?_
              exact tX12_left_j135 X _ F S x2 x3 x4 x5 x6 _ ih
set_option maxRecDepth 100000 in
set_option maxHeartbeats 4000000 in
theorem tX12_left {ad : Nat → Nat → Nat} (X : Ctx) (γ : Nat → Nat) (F : Nat) (S : St) (p1 : Int32) (p2 : Int32) (p3 : Int32) : JJ X ad γ (RQm X ad 2 51 (outpi S)) (fcm (outpi S)) 2 51 cX12_left 9 RX12 wsX12_left (some .int) (fX12_left F S p1 p2 p3) S 0 [(0, .ref (ad 11 0)), (1, .int p1), (2, .int p2), (3, .int p3)] [] := by
  unfold fX12_left
  refine j_iload_n 0 1 dX12_left_0 rfl rfl ?_
  refine j_i2l 1 dX12_left_1 ?_
  refine j_lconst (v := 0) 2 dX12_left_2 (by decide) ?_
  refine j_aload_n 3 0 dX12_left_3 rfl rfl ?_
  refine j_geti 4 23 nX12_left_X12 rfl (by decide) (prs_mem (by decide) (by decide)) (by decide) (by decide) wX12_left_f257 (Or.inl rfl) rfl dX12_left_4 ?_
  refine j_iconst (v := 1) 7 dX12_left_7 (by decide) ?_
  refine j_isub 8 dX12_left_8 ?_
  refine j_i2l 9 dX12_left_9 ?_
  refine j_callS_pi 10  [.long p1.toInt64, .long 0, .long ((gI S 11 0 23) - 1).toInt64] [] gX12_left_X12_in rfl eX12_in ⟨Nat.le_of_ble_eq_true rfl, Nat.le_of_ble_eq_true rfl⟩ rfl rfl (Nat.le_of_ble_eq_true rfl) dX12_left_10 (kX12_in S p1.toInt64 0 ((gI S 11 0 23) - 1).toInt64) (fun b_1 γ => ?_)
  refine j_if_eq 13 23 dX12_left_13 (by decide) (fun _ => ?_) (fun _ => ?_)
  · refine j_iconst (v := (-1)) 23 dX12_left_23 (by decide) ?_
    exact j_iret 24 rfl dX12_left_24
  · refine j_iload_n 16 2 dX12_left_16 rfl rfl ?_
    refine j_callS_pi 17  [.int p2] [] gX12_left_X12_isYear rfl eX12_isYear ⟨Nat.le_of_ble_eq_true rfl, Nat.le_of_ble_eq_true rfl⟩ rfl rfl (Nat.le_of_ble_eq_true rfl) dX12_left_17 (kX12_isYear S p2) (fun b_2 γ => ?_)
    refine j_if_ne 20 25 dX12_left_20 (by decide) (fun _ => ?_) (fun _ => ?_)
    · refine j_aload_n 25 0 dX12_left_25 rfl rfl ?_
      refine j_getr (c2 := 70) (n2 := 0) 26 24 nX12_left_X12 rfl (by decide) (prs_mem (by decide) (by decide)) (by decide) (by decide) wX12_left_f61 (Or.inl rfl) rfl rfl rfl dX12_left_26 ?_
      refine j_bipush (v := 6) 29 dX12_left_29 (by decide) ?_
      refine j_iload_n 31 1 dX12_left_31 rfl rfl ?_
      refine j_imul 32 dX12_left_32 ?_
      refine j_iald (c := 70) (n := 0) (L := 54) 33 (prs_mem (by decide) (by decide)) (by decide) rfl rfl rfl dX12_left_33 ?_
      refine j_bndi (fun x4_3 => ?_)
      refine j_istore (lv2 := [(4, .int x4_3), (0, .ref (ad 11 0)), (1, .int p1), (2, .int p2), (3, .int p3)]) 34 dX12_left_34 (by decide) rfl ?_
      refine j_iconst (v := 0) 36 dX12_left_36 (by decide) ?_
      refine j_istore (lv2 := [(5, .int 0), (4, .int x4_3), (0, .ref (ad 11 0)), (1, .int p1), (2, .int p2), (3, .int p3)]) 37 dX12_left_37 (by decide) rfl ?_
      refine j_iconst (v := 0) 39 dX12_left_39 (by decide) ?_
      refine j_istore (lv2 := [(6, .int 0), (5, .int 0), (4, .int x4_3), (0, .ref (ad 11 0)), (1, .int p1), (2, .int p2), (3, .int p3)]) 40 dX12_left_40 (by decide) rfl ?_
      refine j_sub [3, 5, 6, 2, 1, 0] rfl ?_
      exact tX12_left_L42 X F S p2 p3 x4_3 F _ 0 0
    · refine j_iconst (v := (-1)) 23 dX12_left_23 (by decide) ?_
      exact j_iret 24 rfl dX12_left_24
set_option maxRecDepth 100000 in
set_option maxHeartbeats 4000000 in
theorem kX12_left {ad : Nat → Nat → Nat} (F : Nat) (S : St) (p1 : Int32) (p2 : Int32) (p3 : Int32) : ∀ b, fX12_left F S p1 p2 p3 = some b → ∀ l dC dI cy, CT l dC dI cy ad yX12_left wsX12_left 2 51 [.ref (ad 11 0), .int p1, .int p2, .int p3] S (some (.int b)) S :=
  fun b hb l dC dI cy => ct_of (l := l) (dC := dC) (dI := dI) (cy := cy) (outpi S) (by decide) rfl (Nat.le_of_ble_eq_true rfl) rfl (fun X γ => tX12_left X γ F S p1 p2 p3) b hb
-- X12_cousinsOf
theorem nX12_cousinsOf_X12 : ∀ w ∈ u_ws RX12 TX12 40, w ∈ wsX12_cousinsOf := by decide +kernel
theorem wX12_cousinsOf_f175 : Cond.fieldLink RX12 175 "TwoTonguesModel" "personMany" "I" ∈ wsX12_cousinsOf := by decide +kernel
theorem wX12_cousinsOf_f76 : Cond.fieldLink RX12 76 "TwoTonguesModel" "kins" "[I" ∈ wsX12_cousinsOf := by decide +kernel
set_option maxRecDepth 100000 in
set_option maxHeartbeats 4000000 in
theorem tX12_cousinsOf_j47 {ad : Nat → Nat → Nat} (X : Ctx) (γ : Nat → Nat) (F : Nat) (S : St) (x1 : Int32) (x2 : Int32) (x4 : Int32) (s0 : Int32) (rec : Int32 → Int32 → Option Int32)  (ih : ∀ (γ : Nat → Nat) (x3 : Int32) (x4 : Int32), JJ X ad γ (RQm X ad 1 21 (outpi S)) (fcm (outpi S)) 1 21 cX12_cousinsOf 5 RX12 wsX12_cousinsOf (some .int) (rec x3 x4) S 5 [(0, .ref (ad 11 0)), (1, .int x1), (2, .int x2), (3, .int x3), (4, .int x4)] []) : JJ X ad γ (RQm X ad 1 21 (outpi S)) (fcm (outpi S)) 1 21 cX12_cousinsOf 5 RX12 wsX12_cousinsOf (some .int) (fX12_cousinsOf_j47 F S x1 x2 x4 s0 rec) S 47 [(0, .ref (ad 11 0)), (1, .int x1), (2, .int x2), (4, .int x4)] [.int s0] := by
  unfold fX12_cousinsOf_j47
  refine j_iconst (v := 0) 47 dX12_cousinsOf_47 (by decide) ?_
  refine j_iadd 48 dX12_cousinsOf_48 ?_
  refine j_bndi (fun x3_2 => ?_)
  refine j_istore_n (lv2 := [(3, .int x3_2), (0, .ref (ad 11 0)), (1, .int x1), (2, .int x2), (4, .int x4)]) 49 dX12_cousinsOf_49 rfl (by decide) rfl ?_
  refine j_iinc (v := x4 + 1) (lv2 := [(4, .int (x4 + 1)), (3, .int x3_2), (0, .ref (ad 11 0)), (1, .int x1), (2, .int x2)]) 50 4 dX12_cousinsOf_50 rfl rfl (by decide) rfl ?_
  refine j_goto 53 5 dX12_cousinsOf_53 (by decide) ?_
  refine j_sub [2, 3, 4, 1, 0] rfl ?_
  exact ih _ x3_2 (x4 + 1)
set_option maxRecDepth 100000 in
set_option maxHeartbeats 4000000 in
theorem tX12_cousinsOf_L5 {ad : Nat → Nat → Nat} (X : Ctx) (F : Nat) (S : St) (x1 : Int32) (x2 : Int32)   : ∀ (n : Nat) (γ : Nat → Nat) (x3 : Int32) (x4 : Int32), JJ X ad γ (RQm X ad 1 21 (outpi S)) (fcm (outpi S)) 1 21 cX12_cousinsOf 5 RX12 wsX12_cousinsOf (some .int) (fX12_cousinsOf_L5 F S x1 x2 n x3 x4) S 5 [(0, .ref (ad 11 0)), (1, .int x1), (2, .int x2), (3, .int x3), (4, .int x4)] [] := by
  intro n
  induction n with
  | zero => intro _ _ _; exact j_none
  | succ n ih =>
    intro γ x3 x4
    rw [show fX12_cousinsOf_L5 F S x1 x2 (n + 1) x3 x4 = fX12_cousinsOf_b5 F S x1 x2 (fX12_cousinsOf_L5 F S x1 x2 n) x3 x4 from rfl]
    unfold fX12_cousinsOf_b5
    refine j_iload 5 4 dX12_cousinsOf_5 rfl ?_
    refine j_aload_n 7 0 dX12_cousinsOf_7 rfl rfl ?_
    refine j_geti 8 6 nX12_cousinsOf_X12 rfl (by decide) (prs_mem (by decide) (by decide)) (by decide) (by decide) wX12_cousinsOf_f175 (Or.inl rfl) rfl dX12_cousinsOf_8 ?_
    refine j_icmp_ge 11 56 dX12_cousinsOf_11 (by decide) (fun _ => ?_) (fun _ => ?_)
    · refine j_iload_n 56 3 dX12_cousinsOf_56 rfl rfl ?_
      exact j_iret 57 rfl dX12_cousinsOf_57
    · refine j_iload_n 14 3 dX12_cousinsOf_14 rfl rfl ?_
      refine j_aload_n 15 0 dX12_cousinsOf_15 rfl rfl ?_
      refine j_getr (c2 := 75) (n2 := 0) 16 31 nX12_cousinsOf_X12 rfl (by decide) (prs_mem (by decide) (by decide)) (by decide) (by decide) wX12_cousinsOf_f76 (Or.inl rfl) rfl rfl rfl dX12_cousinsOf_16 ?_
      refine j_iload 19 4 dX12_cousinsOf_19 rfl ?_
      refine j_iald (c := 75) (n := 0) (L := 30) 21 (prs_mem (by decide) (by decide)) (by decide) rfl rfl rfl dX12_cousinsOf_21 ?_
      refine j_iload_n 22 1 dX12_cousinsOf_22 rfl rfl ?_
      refine j_callS_pi 23  [.int (gA S 75 0 x4.toNatClampNeg), .int x1] [.int x3] gX12_cousinsOf_X12_has rfl eX12_has ⟨Nat.le_of_ble_eq_true rfl, Nat.le_of_ble_eq_true rfl⟩ rfl rfl (Nat.le_of_ble_eq_true rfl) dX12_cousinsOf_23 (kX12_has S (gA S 75 0 x4.toNatClampNeg) x1) (fun b_1 γ => ?_)
      refine j_if_eq 26 47 dX12_cousinsOf_26 (by decide) (fun _ => ?_) (fun _ => ?_)
      · refine j_sub [0, 1, 2, 4] rfl ?_
        exact tX12_cousinsOf_j47 X _ F S x1 x2 x4 x3 _ ih
      · refine j_aload_n 29 0 dX12_cousinsOf_29 rfl rfl ?_
        refine j_getr (c2 := 75) (n2 := 0) 30 31 nX12_cousinsOf_X12 rfl (by decide) (prs_mem (by decide) (by decide)) (by decide) (by decide) wX12_cousinsOf_f76 (Or.inl rfl) rfl rfl rfl dX12_cousinsOf_30 ?_
        refine j_iload 33 4 dX12_cousinsOf_33 rfl ?_
        refine j_iald (c := 75) (n := 0) (L := 30) 35 (prs_mem (by decide) (by decide)) (by decide) rfl rfl rfl dX12_cousinsOf_35 ?_
        refine j_iload_n 36 2 dX12_cousinsOf_36 rfl rfl ?_
        refine j_callS_pi 37  [.int (gA S 75 0 x4.toNatClampNeg), .int x2] [.int x3] gX12_cousinsOf_X12_has rfl eX12_has ⟨Nat.le_of_ble_eq_true rfl, Nat.le_of_ble_eq_true rfl⟩ rfl rfl (Nat.le_of_ble_eq_true rfl) dX12_cousinsOf_37 (kX12_has S (gA S 75 0 x4.toNatClampNeg) x2) (fun b_3 γ => ?_)
        refine j_if_eq 40 47 dX12_cousinsOf_40 (by decide) (fun _ => ?_) (fun _ => ?_)
        · refine j_sub [0, 1, 2, 4] rfl ?_
          exact tX12_cousinsOf_j47 X _ F S x1 x2 x4 x3 _ ih
        · refine j_iconst (v := 1) 43 dX12_cousinsOf_43 (by decide) ?_
          refine j_goto 44 48 dX12_cousinsOf_44 (by decide) ?_
          refine j_iadd 48 dX12_cousinsOf_48 ?_
          refine j_bndi (fun x3_4 => ?_)
          refine j_istore_n (lv2 := [(3, .int x3_4), (0, .ref (ad 11 0)), (1, .int x1), (2, .int x2), (4, .int x4)]) 49 dX12_cousinsOf_49 rfl (by decide) rfl ?_
          refine j_iinc (v := x4 + 1) (lv2 := [(4, .int (x4 + 1)), (3, .int x3_4), (0, .ref (ad 11 0)), (1, .int x1), (2, .int x2)]) 50 4 dX12_cousinsOf_50 rfl rfl (by decide) rfl ?_
          refine j_goto 53 5 dX12_cousinsOf_53 (by decide) ?_
          refine j_sub [2, 3, 4, 1, 0] rfl ?_
          exact ih _ x3_4 (x4 + 1)
set_option maxRecDepth 100000 in
set_option maxHeartbeats 4000000 in
theorem tX12_cousinsOf {ad : Nat → Nat → Nat} (X : Ctx) (γ : Nat → Nat) (F : Nat) (S : St) (p1 : Int32) (p2 : Int32) : JJ X ad γ (RQm X ad 1 21 (outpi S)) (fcm (outpi S)) 1 21 cX12_cousinsOf 5 RX12 wsX12_cousinsOf (some .int) (fX12_cousinsOf F S p1 p2) S 0 [(0, .ref (ad 11 0)), (1, .int p1), (2, .int p2)] [] := by
  unfold fX12_cousinsOf
  refine j_iconst (v := 0) 0 dX12_cousinsOf_0 (by decide) ?_
  refine j_istore_n (lv2 := [(3, .int 0), (0, .ref (ad 11 0)), (1, .int p1), (2, .int p2)]) 1 dX12_cousinsOf_1 rfl (by decide) rfl ?_
  refine j_iconst (v := 0) 2 dX12_cousinsOf_2 (by decide) ?_
  refine j_istore (lv2 := [(4, .int 0), (3, .int 0), (0, .ref (ad 11 0)), (1, .int p1), (2, .int p2)]) 3 dX12_cousinsOf_3 (by decide) rfl ?_
  refine j_sub [2, 3, 4, 1, 0] rfl ?_
  exact tX12_cousinsOf_L5 X F S p1 p2 F _ 0 0
set_option maxRecDepth 100000 in
set_option maxHeartbeats 4000000 in
theorem kX12_cousinsOf {ad : Nat → Nat → Nat} (F : Nat) (S : St) (p1 : Int32) (p2 : Int32) : ∀ b, fX12_cousinsOf F S p1 p2 = some b → ∀ l dC dI cy, CT l dC dI cy ad yX12_cousinsOf wsX12_cousinsOf 1 21 [.ref (ad 11 0), .int p1, .int p2] S (some (.int b)) S :=
  fun b hb l dC dI cy => ct_of (l := l) (dC := dC) (dI := dI) (cy := cy) (outpi S) (by decide) rfl (Nat.le_of_ble_eq_true rfl) rfl (fun X γ => tX12_cousinsOf X γ F S p1 p2) b hb
-- X12_cousins
set_option maxRecDepth 100000 in
set_option maxHeartbeats 4000000 in
theorem tX12_cousins {ad : Nat → Nat → Nat} (X : Ctx) (γ : Nat → Nat) (F : Nat) (S : St) (p1 : Int32) (p2 : Int32) : JJ X ad γ (RQm X ad 2 45 outei) (fcm outei) 2 45 cX12_cousins 3 RX12 wsX12_cousins (some .int) (fX12_cousins F S p1 p2) S 0 [(0, .ref (ad 11 0)), (1, .int p1), (2, .int p2)] [] := by
  unfold fX12_cousins
  refine j_iload_n 0 1 dX12_cousins_0 rfl rfl ?_
  refine j_callS_pi 1  [.int p1] [] gX12_cousins_X12_isKin rfl eX12_isKin ⟨Nat.le_of_ble_eq_true rfl, Nat.le_of_ble_eq_true rfl⟩ rfl rfl (Nat.le_of_ble_eq_true rfl) dX12_cousins_1 (kX12_isKin S p1) (fun b_1 γ => ?_)
  refine j_if_eq 4 19 dX12_cousins_4 (by decide) (fun _ => ?_) (fun _ => ?_)
  · refine j_iconst (v := (-1)) 19 dX12_cousins_19 (by decide) ?_
    exact j_iret 20 rfl dX12_cousins_20
  · refine j_iload_n 7 2 dX12_cousins_7 rfl rfl ?_
    refine j_callS_pi 8  [.int p2] [] gX12_cousins_X12_isKin rfl eX12_isKin ⟨Nat.le_of_ble_eq_true rfl, Nat.le_of_ble_eq_true rfl⟩ rfl rfl (Nat.le_of_ble_eq_true rfl) dX12_cousins_8 (kX12_isKin S p2) (fun b_2 γ => ?_)
    refine j_if_eq 11 19 dX12_cousins_11 (by decide) (fun _ => ?_) (fun _ => ?_)
    · refine j_iconst (v := (-1)) 19 dX12_cousins_19 (by decide) ?_
      exact j_iret 20 rfl dX12_cousins_20
    · refine j_iload_n 14 1 dX12_cousins_14 rfl rfl ?_
      refine j_iload_n 15 2 dX12_cousins_15 rfl rfl ?_
      refine j_icmp_ne 16 21 dX12_cousins_16 (by decide) (fun _ => ?_) (fun _ => ?_)
      · refine j_aload_n 21 0 dX12_cousins_21 rfl rfl ?_
        refine j_callV_ev 22 rfl (by decide) (prs_mem (by decide) (by decide))  [] [] gX12_cousins_X12_layKins rfl eX12_layKins ⟨Nat.le_of_ble_eq_true rfl, Nat.le_of_ble_eq_true rfl⟩ rfl rfl (Nat.le_of_ble_eq_true rfl) dX12_cousins_22 (kX12_layKins F S) (fun b_3 γ => ?_)
        refine j_aload_n 25 0 dX12_cousins_25 rfl rfl ?_
        refine j_iload_n 26 1 dX12_cousins_26 rfl rfl ?_
        refine j_iload_n 27 2 dX12_cousins_27 rfl rfl ?_
        refine j_callV_pi 28 rfl (by decide) (prs_mem (by decide) (by decide))  [.int p1, .int p2] [] gX12_cousins_X12_cousinsOf rfl eX12_cousinsOf ⟨Nat.le_of_ble_eq_true rfl, Nat.le_of_ble_eq_true rfl⟩ rfl rfl (Nat.le_of_ble_eq_true rfl) dX12_cousins_28 (kX12_cousinsOf F b_3 p1 p2) (fun b_4 γ => ?_)
        exact j_iret 31 rfl dX12_cousins_31
      · refine j_iconst (v := (-1)) 19 dX12_cousins_19 (by decide) ?_
        exact j_iret 20 rfl dX12_cousins_20
set_option maxRecDepth 100000 in
set_option maxHeartbeats 4000000 in
theorem kX12_cousins {ad : Nat → Nat → Nat} (F : Nat) (S : St) (p1 : Int32) (p2 : Int32) : ∀ b, fX12_cousins F S p1 p2 = some b → ∀ l dC dI cy, CT l dC dI cy ad yX12_cousins wsX12_cousins 2 45 [.ref (ad 11 0), .int p1, .int p2] S (some (.int b.1)) b.2 :=
  fun b hb l dC dI cy => ct_of (l := l) (dC := dC) (dI := dI) (cy := cy) outei (by decide) rfl (Nat.le_of_ble_eq_true rfl) rfl (fun X γ => tX12_cousins X γ F S p1 p2) b hb
-- X12_settled
theorem nX12_settled_X12 : ∀ w ∈ u_ws RX12 TX12 40, w ∈ wsX12_settled := by decide +kernel
theorem wX12_settled_c178 : Cond.constantLong RX12 178 (9) ∈ wsX12_settled := by decide +kernel
theorem wX12_settled_f92 : Cond.fieldLink RX12 92 "TwoTonguesModel" "pairs" "[I" ∈ wsX12_settled := by decide +kernel
set_option maxRecDepth 100000 in
set_option maxHeartbeats 4000000 in
theorem tX12_settled_L48 {ad : Nat → Nat → Nat} (X : Ctx) (F : Nat) (x1 : Int32) (x2 : Int32) (x3 : Int32) (x4 : Int32) (k82 : St → Option (Int32 × St))  (hk82 : ∀ (γ : Nat → Nat) (S : St), JJ X ad γ (RQm X ad 2 45 outei) (fcm outei) 2 45 cX12_settled 10 RX12 wsX12_settled (some .int) (k82 S) S 82 [(0, .ref (ad 11 0)), (1, .int x1), (2, .int x2), (3, .int x3), (4, .int x4)] []) : ∀ (n : Nat) (γ : Nat → Nat) (x5 : Int32) (S : St), JJ X ad γ (RQm X ad 2 45 outei) (fcm outei) 2 45 cX12_settled 10 RX12 wsX12_settled (some .int) (fX12_settled_L48 F x1 x2 x3 x4 k82 n x5 S) S 48 [(0, .ref (ad 11 0)), (1, .int x1), (2, .int x2), (3, .int x3), (4, .int x4), (5, .int x5)] [] := by
  intro n
  induction n with
  | zero => intro _ _ _; exact j_none
  | succ n ih =>
    intro γ x5 S
    rw [show fX12_settled_L48 F x1 x2 x3 x4 k82 (n + 1) x5 S = fX12_settled_b48 F x1 x2 x3 x4 k82 (fX12_settled_L48 F x1 x2 x3 x4 k82 n) x5 S from rfl]
    unfold fX12_settled_b48
    refine j_iload 48 5 dX12_settled_48 rfl ?_
    refine j_bipush (v := 10) 50 dX12_settled_50 (by decide) ?_
    refine j_icmp_ge 52 82 dX12_settled_52 (by decide) (fun _ => ?_) (fun _ => ?_)
    · refine j_sub [0, 1, 2, 3, 4] rfl ?_
      exact hk82 _ S
    · refine j_aload_n 55 0 dX12_settled_55 rfl rfl ?_
      refine j_getr (c2 := 80) (n2 := 0) 56 39 nX12_settled_X12 rfl (by decide) (prs_mem (by decide) (by decide)) (by decide) (by decide) wX12_settled_f92 (Or.inl rfl) rfl rfl rfl dX12_settled_56 ?_
      refine j_bipush (v := 10) 59 dX12_settled_59 (by decide) ?_
      refine j_iload 61 4 dX12_settled_61 rfl ?_
      refine j_imul 63 dX12_settled_63 ?_
      refine j_iload 64 5 dX12_settled_64 rfl ?_
      refine j_iadd 66 dX12_settled_66 ?_
      refine j_aload_n 67 0 dX12_settled_67 rfl rfl ?_
      refine j_iload 68 4 dX12_settled_68 rfl ?_
      refine j_iload 70 5 dX12_settled_70 rfl ?_
      refine j_callV_pi 72 rfl (by decide) (prs_mem (by decide) (by decide))  [.int x4, .int x5] [.int (((10 : Int32) * x4) + x5), .ref (ad 80 0)] gX12_settled_X12_cousinsOf rfl eX12_cousinsOf ⟨Nat.le_of_ble_eq_true rfl, Nat.le_of_ble_eq_true rfl⟩ rfl rfl (Nat.le_of_ble_eq_true rfl) dX12_settled_72 (kX12_cousinsOf F S x4 x5) (fun b_5 γ => ?_)
      refine j_iast (c := 80) (n := 0) (L := 100) 75 (prs_mem (by decide) (by decide)) (by decide) rfl rfl rfl dX12_settled_75 (j_bs (fun S_6 => ?_))
      refine j_iinc (v := x5 + 1) (lv2 := [(5, .int (x5 + 1)), (0, .ref (ad 11 0)), (1, .int x1), (2, .int x2), (3, .int x3), (4, .int x4)]) 76 5 dX12_settled_76 rfl rfl (by decide) rfl ?_
      refine j_goto 79 48 dX12_settled_79 (by decide) ?_
      refine j_sub [1, 2, 3, 4, 5, 0] rfl ?_
      exact ih _ (x5 + 1) S_6
set_option maxRecDepth 100000 in
set_option maxHeartbeats 4000000 in
theorem tX12_settled_L38 {ad : Nat → Nat → Nat} (X : Ctx) (F : Nat) (x1 : Int32) (x2 : Int32) (x3 : Int32) (k88 : St → Option (Int32 × St))  (hk88 : ∀ (γ : Nat → Nat) (S : St), JJ X ad γ (RQm X ad 2 45 outei) (fcm outei) 2 45 cX12_settled 10 RX12 wsX12_settled (some .int) (k88 S) S 88 [(0, .ref (ad 11 0)), (1, .int x1), (2, .int x2), (3, .int x3)] []) : ∀ (n : Nat) (γ : Nat → Nat) (x4 : Int32) (S : St), JJ X ad γ (RQm X ad 2 45 outei) (fcm outei) 2 45 cX12_settled 10 RX12 wsX12_settled (some .int) (fX12_settled_L38 F x1 x2 x3 k88 n x4 S) S 38 [(0, .ref (ad 11 0)), (1, .int x1), (2, .int x2), (3, .int x3), (4, .int x4)] [] := by
  intro n
  induction n with
  | zero => intro _ _ _; exact j_none
  | succ n ih =>
    intro γ x4 S
    rw [show fX12_settled_L38 F x1 x2 x3 k88 (n + 1) x4 S = fX12_settled_b38 F x1 x2 x3 k88 (fX12_settled_L38 F x1 x2 x3 k88 n) x4 S from rfl]
    unfold fX12_settled_b38
    refine j_iload 38 4 dX12_settled_38 rfl ?_
    refine j_bipush (v := 10) 40 dX12_settled_40 (by decide) ?_
    refine j_icmp_ge 42 88 dX12_settled_42 (by decide) (fun _ => ?_) (fun _ => ?_)
    · refine j_sub [0, 1, 2, 3] rfl ?_
      exact hk88 _ S
    · refine j_iconst (v := 0) 45 dX12_settled_45 (by decide) ?_
      refine j_istore (lv2 := [(5, .int 0), (0, .ref (ad 11 0)), (1, .int x1), (2, .int x2), (3, .int x3), (4, .int x4)]) 46 dX12_settled_46 (by decide) rfl ?_
      refine j_sub [1, 2, 3, 4, 5, 0] rfl ?_
      refine tX12_settled_L48 X F x1 x2 x3 x4 _ (fun γ S_7 => ?_) F _ 0 S
      refine j_iinc (v := x4 + 1) (lv2 := [(4, .int (x4 + 1)), (0, .ref (ad 11 0)), (1, .int x1), (2, .int x2), (3, .int x3)]) 82 4 dX12_settled_82 rfl rfl (by decide) rfl ?_
      refine j_goto 85 38 dX12_settled_85 (by decide) ?_
      refine j_sub [1, 2, 3, 4, 0] rfl ?_
      exact ih _ (x4 + 1) S_7
set_option maxRecDepth 100000 in
set_option maxHeartbeats 4000000 in
theorem tX12_settled_j185 {ad : Nat → Nat → Nat} (X : Ctx) (γ : Nat → Nat) (F : Nat) (S : St) (x1 : Int32) (x2 : Int32) (x3 : Int32) (x4 : Int32) (x5 : Int32) (x6 : Int32) (x8 : Int32) (x9 : Int32) (s0 : Int32) (rec : Int32 → Int32 → Option (Int32 × St))  (ih : ∀ (γ : Nat → Nat) (x7 : Int32) (x9 : Int32), JJ X ad γ (RQm X ad 2 45 outei) (fcm outei) 2 45 cX12_settled 10 RX12 wsX12_settled (some .int) (rec x7 x9) S 140 [(0, .ref (ad 11 0)), (1, .int x1), (2, .int x2), (3, .int x3), (4, .int x4), (5, .int x5), (6, .int x6), (7, .int x7), (8, .int x8), (9, .int x9)] []) : JJ X ad γ (RQm X ad 2 45 outei) (fcm outei) 2 45 cX12_settled 10 RX12 wsX12_settled (some .int) (fX12_settled_j185 F S x1 x2 x3 x4 x5 x6 x8 x9 s0 rec) S 185 [(0, .ref (ad 11 0)), (1, .int x1), (2, .int x2), (3, .int x3), (4, .int x4), (5, .int x5), (6, .int x6), (8, .int x8), (9, .int x9)] [.int s0] := by
  unfold fX12_settled_j185
  refine j_iconst (v := 0) 185 dX12_settled_185 (by decide) ?_
  refine j_iadd 186 dX12_settled_186 ?_
  refine j_bndi (fun x7_12 => ?_)
  refine j_istore (lv2 := [(7, .int x7_12), (0, .ref (ad 11 0)), (1, .int x1), (2, .int x2), (3, .int x3), (4, .int x4), (5, .int x5), (6, .int x6), (8, .int x8), (9, .int x9)]) 187 dX12_settled_187 (by decide) rfl ?_
  refine j_iinc (v := x9 + 1) (lv2 := [(9, .int (x9 + 1)), (7, .int x7_12), (0, .ref (ad 11 0)), (1, .int x1), (2, .int x2), (3, .int x3), (4, .int x4), (5, .int x5), (6, .int x6), (8, .int x8)]) 189 9 dX12_settled_189 rfl rfl (by decide) rfl ?_
  refine j_goto 192 140 dX12_settled_192 (by decide) ?_
  refine j_sub [2, 3, 4, 5, 6, 7, 8, 1, 9, 0] rfl ?_
  exact ih _ x7_12 (x9 + 1)
set_option maxRecDepth 100000 in
set_option maxHeartbeats 4000000 in
theorem tX12_settled_L140 {ad : Nat → Nat → Nat} (X : Ctx) (F : Nat) (S : St) (x1 : Int32) (x2 : Int32) (x3 : Int32) (x4 : Int32) (x5 : Int32) (x6 : Int32) (x8 : Int32) (k195 : Int32 → Option (Int32 × St))  (hk195 : ∀ (γ : Nat → Nat) (x7 : Int32), JJ X ad γ (RQm X ad 2 45 outei) (fcm outei) 2 45 cX12_settled 10 RX12 wsX12_settled (some .int) (k195 x7) S 195 [(0, .ref (ad 11 0)), (1, .int x1), (2, .int x2), (3, .int x3), (4, .int x4), (5, .int x5), (6, .int x6), (7, .int x7), (8, .int x8)] []) : ∀ (n : Nat) (γ : Nat → Nat) (x7 : Int32) (x9 : Int32), JJ X ad γ (RQm X ad 2 45 outei) (fcm outei) 2 45 cX12_settled 10 RX12 wsX12_settled (some .int) (fX12_settled_L140 F S x1 x2 x3 x4 x5 x6 x8 k195 n x7 x9) S 140 [(0, .ref (ad 11 0)), (1, .int x1), (2, .int x2), (3, .int x3), (4, .int x4), (5, .int x5), (6, .int x6), (7, .int x7), (8, .int x8), (9, .int x9)] [] := by
  intro n
  induction n with
  | zero => intro _ _ _; exact j_none
  | succ n ih =>
    intro γ x7 x9
    rw [show fX12_settled_L140 F S x1 x2 x3 x4 x5 x6 x8 k195 (n + 1) x7 x9 = fX12_settled_b140 F S x1 x2 x3 x4 x5 x6 x8 k195 (fX12_settled_L140 F S x1 x2 x3 x4 x5 x6 x8 k195 n) x7 x9 from rfl]
    unfold fX12_settled_b140
    refine j_iload 140 9 dX12_settled_140 rfl ?_
    refine j_bipush (v := 10) 142 dX12_settled_142 (by decide) ?_
    refine j_icmp_ge 144 195 dX12_settled_144 (by decide) (fun _ => ?_) (fun _ => ?_)
    · refine j_sub [0, 1, 2, 3, 4, 5, 6, 7, 8] rfl ?_
      exact hk195 _ x7
    · refine j_iload 147 7 dX12_settled_147 rfl ?_
      refine j_iload 149 6 dX12_settled_149 rfl ?_
      refine j_iload 151 8 dX12_settled_151 rfl ?_
      refine j_callS_pi 153  [.int x6, .int x8] [.int x7] gX12_settled_X12_has rfl eX12_has ⟨Nat.le_of_ble_eq_true rfl, Nat.le_of_ble_eq_true rfl⟩ rfl rfl (Nat.le_of_ble_eq_true rfl) dX12_settled_153 (kX12_has S x6 x8) (fun b_11 γ => ?_)
      refine j_if_eq 156 185 dX12_settled_156 (by decide) (fun _ => ?_) (fun _ => ?_)
      · refine j_sub [0, 1, 2, 3, 4, 5, 6, 8, 9] rfl ?_
        exact tX12_settled_j185 X _ F S x1 x2 x3 x4 x5 x6 x8 x9 x7 _ ih
      · refine j_iload 159 6 dX12_settled_159 rfl ?_
        refine j_iload 161 9 dX12_settled_161 rfl ?_
        refine j_callS_pi 163  [.int x6, .int x9] [.int x7] gX12_settled_X12_has rfl eX12_has ⟨Nat.le_of_ble_eq_true rfl, Nat.le_of_ble_eq_true rfl⟩ rfl rfl (Nat.le_of_ble_eq_true rfl) dX12_settled_163 (kX12_has S x6 x9) (fun b_13 γ => ?_)
        refine j_if_ne 166 185 dX12_settled_166 (by decide) (fun _ => ?_) (fun _ => ?_)
        · refine j_sub [0, 1, 2, 3, 4, 5, 6, 8, 9] rfl ?_
          exact tX12_settled_j185 X _ F S x1 x2 x3 x4 x5 x6 x8 x9 x7 _ ih
        · refine j_aload_n 169 0 dX12_settled_169 rfl rfl ?_
          refine j_getr (c2 := 80) (n2 := 0) 170 39 nX12_settled_X12 rfl (by decide) (prs_mem (by decide) (by decide)) (by decide) (by decide) wX12_settled_f92 (Or.inl rfl) rfl rfl rfl dX12_settled_170 ?_
          refine j_bipush (v := 10) 173 dX12_settled_173 (by decide) ?_
          refine j_iload 175 8 dX12_settled_175 rfl ?_
          refine j_imul 177 dX12_settled_177 ?_
          refine j_iload 178 9 dX12_settled_178 rfl ?_
          refine j_iadd 180 dX12_settled_180 ?_
          refine j_iald (c := 80) (n := 0) (L := 100) 181 (prs_mem (by decide) (by decide)) (by decide) rfl rfl rfl dX12_settled_181 ?_
          refine j_goto 182 186 dX12_settled_182 (by decide) ?_
          refine j_iadd 186 dX12_settled_186 ?_
          refine j_bndi (fun x7_14 => ?_)
          refine j_istore (lv2 := [(7, .int x7_14), (0, .ref (ad 11 0)), (1, .int x1), (2, .int x2), (3, .int x3), (4, .int x4), (5, .int x5), (6, .int x6), (8, .int x8), (9, .int x9)]) 187 dX12_settled_187 (by decide) rfl ?_
          refine j_iinc (v := x9 + 1) (lv2 := [(9, .int (x9 + 1)), (7, .int x7_14), (0, .ref (ad 11 0)), (1, .int x1), (2, .int x2), (3, .int x3), (4, .int x4), (5, .int x5), (6, .int x6), (8, .int x8)]) 189 9 dX12_settled_189 rfl rfl (by decide) rfl ?_
          refine j_goto 192 140 dX12_settled_192 (by decide) ?_
          refine j_sub [2, 3, 4, 5, 6, 7, 8, 1, 9, 0] rfl ?_
          exact ih _ x7_14 (x9 + 1)
set_option maxRecDepth 100000 in
set_option maxHeartbeats 4000000 in
theorem tX12_settled_L130 {ad : Nat → Nat → Nat} (X : Ctx) (F : Nat) (S : St) (x1 : Int32) (x2 : Int32) (x3 : Int32) (x4 : Int32) (x5 : Int32) (x6 : Int32) (k201 : Int32 → Option (Int32 × St))  (hk201 : ∀ (γ : Nat → Nat) (x7 : Int32), JJ X ad γ (RQm X ad 2 45 outei) (fcm outei) 2 45 cX12_settled 10 RX12 wsX12_settled (some .int) (k201 x7) S 201 [(0, .ref (ad 11 0)), (1, .int x1), (2, .int x2), (3, .int x3), (4, .int x4), (5, .int x5), (6, .int x6), (7, .int x7)] []) : ∀ (n : Nat) (γ : Nat → Nat) (x7 : Int32) (x8 : Int32), JJ X ad γ (RQm X ad 2 45 outei) (fcm outei) 2 45 cX12_settled 10 RX12 wsX12_settled (some .int) (fX12_settled_L130 F S x1 x2 x3 x4 x5 x6 k201 n x7 x8) S 130 [(0, .ref (ad 11 0)), (1, .int x1), (2, .int x2), (3, .int x3), (4, .int x4), (5, .int x5), (6, .int x6), (7, .int x7), (8, .int x8)] [] := by
  intro n
  induction n with
  | zero => intro _ _ _; exact j_none
  | succ n ih =>
    intro γ x7 x8
    rw [show fX12_settled_L130 F S x1 x2 x3 x4 x5 x6 k201 (n + 1) x7 x8 = fX12_settled_b130 F S x1 x2 x3 x4 x5 x6 k201 (fX12_settled_L130 F S x1 x2 x3 x4 x5 x6 k201 n) x7 x8 from rfl]
    unfold fX12_settled_b130
    refine j_iload 130 8 dX12_settled_130 rfl ?_
    refine j_bipush (v := 10) 132 dX12_settled_132 (by decide) ?_
    refine j_icmp_ge 134 201 dX12_settled_134 (by decide) (fun _ => ?_) (fun _ => ?_)
    · refine j_sub [0, 1, 2, 3, 4, 5, 6, 7] rfl ?_
      exact hk201 _ x7
    · refine j_iconst (v := 0) 137 dX12_settled_137 (by decide) ?_
      refine j_istore (lv2 := [(9, .int 0), (0, .ref (ad 11 0)), (1, .int x1), (2, .int x2), (3, .int x3), (4, .int x4), (5, .int x5), (6, .int x6), (7, .int x7), (8, .int x8)]) 138 dX12_settled_138 (by decide) rfl ?_
      refine j_sub [1, 2, 3, 4, 5, 6, 7, 8, 9, 0] rfl ?_
      refine tX12_settled_L140 X F S x1 x2 x3 x4 x5 x6 x8 _ (fun γ x7_15 => ?_) F _ x7 0
      refine j_iinc (v := x8 + 1) (lv2 := [(8, .int (x8 + 1)), (0, .ref (ad 11 0)), (1, .int x1), (2, .int x2), (3, .int x3), (4, .int x4), (5, .int x5), (6, .int x6), (7, .int x7_15)]) 195 8 dX12_settled_195 rfl rfl (by decide) rfl ?_
      refine j_goto 198 130 dX12_settled_198 (by decide) ?_
      refine j_sub [1, 2, 3, 4, 5, 6, 7, 8, 0] rfl ?_
      exact ih _ x7_15 (x8 + 1)
set_option maxRecDepth 100000 in
set_option maxHeartbeats 4000000 in
theorem tX12_settled_j215 {ad : Nat → Nat → Nat} (X : Ctx) (γ : Nat → Nat) (F : Nat) (S : St) (x1 : Int32) (x2 : Int32) (x3 : Int32) (x6 : Int32) (x7 : Int32) (rec : Int32 → Int32 → Int32 → Option (Int32 × St))  (ih : ∀ (γ : Nat → Nat) (x4 : Int32) (x5 : Int32) (x6 : Int32), JJ X ad γ (RQm X ad 2 45 outei) (fcm outei) 2 45 cX12_settled 10 RX12 wsX12_settled (some .int) (rec x4 x5 x6) S 98 [(0, .ref (ad 11 0)), (1, .int x1), (2, .int x2), (3, .int x3), (4, .int x4), (5, .int x5), (6, .int x6)] []) : JJ X ad γ (RQm X ad 2 45 outei) (fcm outei) 2 45 cX12_settled 10 RX12 wsX12_settled (some .int) (fX12_settled_j215 F S x1 x2 x3 x6 x7 rec) S 215 [(0, .ref (ad 11 0)), (1, .int x1), (2, .int x2), (3, .int x3), (6, .int x6), (7, .int x7)] [] := by
  unfold fX12_settled_j215
  refine j_iload 215 4 dX12_settled_215 rfl ?_
  refine j_istore (lv2 := [(4, .int x6), (0, .ref (ad 11 0)), (1, .int x1), (2, .int x2), (3, .int x3), (6, .int x6), (7, .int x7)]) 217 dX12_settled_217 (by decide) rfl ?_
  refine j_iload 219 6 dX12_settled_219 rfl ?_
  refine j_istore (lv2 := [(5, .int x7), (4, .int x6), (0, .ref (ad 11 0)), (1, .int x1), (2, .int x2), (3, .int x3), (6, .int x6), (7, .int x7)]) 221 dX12_settled_221 (by decide) rfl ?_
  refine j_iinc (v := x6 + 1) (lv2 := [(6, .int (x6 + 1)), (5, .int x7), (4, .int x6), (0, .ref (ad 11 0)), (1, .int x1), (2, .int x2), (3, .int x3), (7, .int x7)]) 223 6 dX12_settled_223 rfl rfl (by decide) rfl ?_
  refine j_goto 226 98 dX12_settled_226 (by decide) ?_
  refine j_sub [3, 4, 5, 6, 2, 1, 0] rfl ?_
  exact ih _ x6 x7 (x6 + 1)
set_option maxRecDepth 100000 in
set_option maxHeartbeats 4000000 in
theorem tX12_settled_L98 {ad : Nat → Nat → Nat} (X : Ctx) (F : Nat) (S : St) (x1 : Int32) (x2 : Int32) (x3 : Int32) (k229 : Int32 → Int32 → Option (Int32 × St))  (hk229 : ∀ (γ : Nat → Nat) (x4 : Int32) (x5 : Int32), JJ X ad γ (RQm X ad 2 45 outei) (fcm outei) 2 45 cX12_settled 10 RX12 wsX12_settled (some .int) (k229 x4 x5) S 229 [(3, .int x3), (4, .int x4), (5, .int x5)] []) : ∀ (n : Nat) (γ : Nat → Nat) (x4 : Int32) (x5 : Int32) (x6 : Int32), JJ X ad γ (RQm X ad 2 45 outei) (fcm outei) 2 45 cX12_settled 10 RX12 wsX12_settled (some .int) (fX12_settled_L98 F S x1 x2 x3 k229 n x4 x5 x6) S 98 [(0, .ref (ad 11 0)), (1, .int x1), (2, .int x2), (3, .int x3), (4, .int x4), (5, .int x5), (6, .int x6)] [] := by
  intro n
  induction n with
  | zero => intro _ _ _ _; exact j_none
  | succ n ih =>
    intro γ x4 x5 x6
    rw [show fX12_settled_L98 F S x1 x2 x3 k229 (n + 1) x4 x5 x6 = fX12_settled_b98 F S x1 x2 x3 k229 (fX12_settled_L98 F S x1 x2 x3 k229 n) x4 x5 x6 from rfl]
    unfold fX12_settled_b98
    refine j_iload 98 6 dX12_settled_98 rfl ?_
    refine j_sipush (v := 1024) 100 dX12_settled_100 (by decide) ?_
    refine j_icmp_ge 103 229 dX12_settled_103 (by decide) (fun _ => ?_) (fun _ => ?_)
    · refine j_sub [3, 4, 5] rfl ?_
      exact hk229 _ x4 x5
    · refine j_iload 106 6 dX12_settled_106 rfl ?_
      refine j_iload_n 108 1 dX12_settled_108 rfl rfl ?_
      refine j_callS_pi 109  [.int x6, .int x1] [] gX12_settled_X12_has rfl eX12_has ⟨Nat.le_of_ble_eq_true rfl, Nat.le_of_ble_eq_true rfl⟩ rfl rfl (Nat.le_of_ble_eq_true rfl) dX12_settled_109 (kX12_has S x6 x1) (fun b_9 γ => ?_)
      refine j_if_eq 112 223 dX12_settled_112 (by decide) (fun _ => ?_) (fun _ => ?_)
      · refine j_iinc (v := x6 + 1) (lv2 := [(6, .int (x6 + 1)), (0, .ref (ad 11 0)), (1, .int x1), (2, .int x2), (3, .int x3), (4, .int x4), (5, .int x5)]) 223 6 dX12_settled_223 rfl rfl (by decide) rfl ?_
        refine j_goto 226 98 dX12_settled_226 (by decide) ?_
        refine j_sub [1, 2, 3, 4, 5, 6, 0] rfl ?_
        exact ih _ x4 x5 (x6 + 1)
      · refine j_iload 115 6 dX12_settled_115 rfl ?_
        refine j_callS_pi 117  [.int x6] [] gX12_settled_X12_bits rfl eX12_bits ⟨Nat.le_of_ble_eq_true rfl, Nat.le_of_ble_eq_true rfl⟩ rfl rfl (Nat.le_of_ble_eq_true rfl) dX12_settled_117 (kX12_bits F S x6) (fun b_10 γ => ?_)
        refine j_iload_n 120 2 dX12_settled_120 rfl rfl ?_
        refine j_icmp_ne 121 223 dX12_settled_121 (by decide) (fun _ => ?_) (fun _ => ?_)
        · refine j_iinc (v := x6 + 1) (lv2 := [(6, .int (x6 + 1)), (0, .ref (ad 11 0)), (1, .int x1), (2, .int x2), (3, .int x3), (4, .int x4), (5, .int x5)]) 223 6 dX12_settled_223 rfl rfl (by decide) rfl ?_
          refine j_goto 226 98 dX12_settled_226 (by decide) ?_
          refine j_sub [1, 2, 3, 4, 5, 6, 0] rfl ?_
          exact ih _ x4 x5 (x6 + 1)
        · refine j_iconst (v := 0) 124 dX12_settled_124 (by decide) ?_
          refine j_istore (lv2 := [(7, .int 0), (0, .ref (ad 11 0)), (1, .int x1), (2, .int x2), (3, .int x3), (4, .int x4), (5, .int x5), (6, .int x6)]) 125 dX12_settled_125 (by decide) rfl ?_
          refine j_iconst (v := 0) 127 dX12_settled_127 (by decide) ?_
          refine j_istore (lv2 := [(8, .int 0), (7, .int 0), (0, .ref (ad 11 0)), (1, .int x1), (2, .int x2), (3, .int x3), (4, .int x4), (5, .int x5), (6, .int x6)]) 128 dX12_settled_128 (by decide) rfl ?_
          refine j_sub [2, 3, 4, 5, 6, 7, 8, 1, 0] rfl ?_
          refine tX12_settled_L130 X F S x1 x2 x3 x4 x5 x6 _ (fun γ x7_16 => ?_) F _ 0 0
          refine j_iload 201 4 dX12_settled_201 rfl ?_
          refine j_bipush (v := (-4)) 203 dX12_settled_203 (by decide) ?_
          refine j_icmp_eq 205 215 dX12_settled_205 (by decide) (fun _ => ?_) (fun _ => ?_)
          · refine j_sub [0, 1, 2, 3, 6, 7] rfl ?_
            exact tX12_settled_j215 X _ F S x1 x2 x3 x6 x7_16 _ ih
          · refine j_iload 208 7 dX12_settled_208 rfl ?_
            refine j_iload 210 5 dX12_settled_210 rfl ?_
            refine j_icmp_ge 212 223 dX12_settled_212 (by decide) (fun _ => ?_) (fun _ => ?_)
            · refine j_iinc (v := x6 + 1) (lv2 := [(6, .int (x6 + 1)), (0, .ref (ad 11 0)), (1, .int x1), (2, .int x2), (3, .int x3), (4, .int x4), (5, .int x5), (7, .int x7_16)]) 223 6 dX12_settled_223 rfl rfl (by decide) rfl ?_
              refine j_goto 226 98 dX12_settled_226 (by decide) ?_
              refine j_sub [1, 2, 3, 4, 5, 6, 0] rfl ?_
              exact ih _ x4 x5 (x6 + 1)
            · refine j_sub [0, 1, 2, 3, 6, 7] rfl ?_
              exact tX12_settled_j215 X _ F S x1 x2 x3 x6 x7_16 _ ih
set_option maxRecDepth 100000 in
set_option maxHeartbeats 4000000 in
theorem tX12_settled {ad : Nat → Nat → Nat} (X : Ctx) (γ : Nat → Nat) (F : Nat) (S : St) (p1 : Int32) (p2 : Int32) (p3 : Int32) : JJ X ad γ (RQm X ad 2 45 outei) (fcm outei) 2 45 cX12_settled 10 RX12 wsX12_settled (some .int) (fX12_settled F S p1 p2 p3) S 0 [(0, .ref (ad 11 0)), (1, .int p1), (2, .int p2), (3, .int p3)] [] := by
  unfold fX12_settled
  refine j_iload_n 0 1 dX12_settled_0 rfl rfl ?_
  refine j_callS_pi 1  [.int p1] [] gX12_settled_X12_isKin rfl eX12_isKin ⟨Nat.le_of_ble_eq_true rfl, Nat.le_of_ble_eq_true rfl⟩ rfl rfl (Nat.le_of_ble_eq_true rfl) dX12_settled_1 (kX12_isKin S p1) (fun b_1 γ => ?_)
  refine j_if_eq 4 29 dX12_settled_4 (by decide) (fun _ => ?_) (fun _ => ?_)
  · refine j_iconst (v := (-1)) 29 dX12_settled_29 (by decide) ?_
    exact j_iret 30 rfl dX12_settled_30
  · refine j_iload_n 7 2 dX12_settled_7 rfl rfl ?_
    refine j_i2l 8 dX12_settled_8 ?_
    refine j_lconst (v := 1) 9 dX12_settled_9 (by decide) ?_
    refine j_ldc2 (v := 9) 10 dX12_settled_10 wX12_settled_c178 ?_
    refine j_callS_pi 13  [.long p2.toInt64, .long 1, .long 9] [] gX12_settled_X12_in rfl eX12_in ⟨Nat.le_of_ble_eq_true rfl, Nat.le_of_ble_eq_true rfl⟩ rfl rfl (Nat.le_of_ble_eq_true rfl) dX12_settled_13 (kX12_in S p2.toInt64 1 9) (fun b_2 γ => ?_)
    refine j_if_eq 16 29 dX12_settled_16 (by decide) (fun _ => ?_) (fun _ => ?_)
    · refine j_iconst (v := (-1)) 29 dX12_settled_29 (by decide) ?_
      exact j_iret 30 rfl dX12_settled_30
    · refine j_iload_n 19 3 dX12_settled_19 rfl rfl ?_
      refine j_i2l 20 dX12_settled_20 ?_
      refine j_lconst (v := 0) 21 dX12_settled_21 (by decide) ?_
      refine j_lconst (v := 1) 22 dX12_settled_22 (by decide) ?_
      refine j_callS_pi 23  [.long p3.toInt64, .long 0, .long 1] [] gX12_settled_X12_in rfl eX12_in ⟨Nat.le_of_ble_eq_true rfl, Nat.le_of_ble_eq_true rfl⟩ rfl rfl (Nat.le_of_ble_eq_true rfl) dX12_settled_23 (kX12_in S p3.toInt64 0 1) (fun b_3 γ => ?_)
      refine j_if_ne 26 31 dX12_settled_26 (by decide) (fun _ => ?_) (fun _ => ?_)
      · refine j_aload_n 31 0 dX12_settled_31 rfl rfl ?_
        refine j_callV_ev 32 rfl (by decide) (prs_mem (by decide) (by decide))  [] [] gX12_settled_X12_layKins rfl eX12_layKins ⟨Nat.le_of_ble_eq_true rfl, Nat.le_of_ble_eq_true rfl⟩ rfl rfl (Nat.le_of_ble_eq_true rfl) dX12_settled_32 (kX12_layKins F S) (fun b_4 γ => ?_)
        refine j_iconst (v := 0) 35 dX12_settled_35 (by decide) ?_
        refine j_istore (lv2 := [(4, .int 0), (0, .ref (ad 11 0)), (1, .int p1), (2, .int p2), (3, .int p3)]) 36 dX12_settled_36 (by decide) rfl ?_
        refine j_sub [1, 2, 3, 4, 0] rfl ?_
        refine tX12_settled_L38 X F p1 p2 p3 _ (fun γ S_8 => ?_) F _ 0 b_4
        refine j_bipush (v := (-4)) 88 dX12_settled_88 (by decide) ?_
        refine j_istore (lv2 := [(4, .int (-4)), (0, .ref (ad 11 0)), (1, .int p1), (2, .int p2), (3, .int p3)]) 90 dX12_settled_90 (by decide) rfl ?_
        refine j_iconst (v := 0) 92 dX12_settled_92 (by decide) ?_
        refine j_istore (lv2 := [(5, .int 0), (4, .int (-4)), (0, .ref (ad 11 0)), (1, .int p1), (2, .int p2), (3, .int p3)]) 93 dX12_settled_93 (by decide) rfl ?_
        refine j_iconst (v := 0) 95 dX12_settled_95 (by decide) ?_
        refine j_istore (lv2 := [(6, .int 0), (5, .int 0), (4, .int (-4)), (0, .ref (ad 11 0)), (1, .int p1), (2, .int p2), (3, .int p3)]) 96 dX12_settled_96 (by decide) rfl ?_
        refine j_sub [3, 4, 5, 6, 2, 1, 0] rfl ?_
        refine tX12_settled_L98 X F S_8 p1 p2 p3 _ (fun γ x4_17 x5_18 => ?_) F _ (-4) 0 0
        refine j_iload_n 229 0 dX12_settled_229 rfl rfl ?_
        refine j_if_ne 230 238 dX12_settled_230 (by decide) (fun _ => ?_) (fun _ => ?_)
        · refine j_iload 238 2 dX12_settled_238 rfl ?_
          exact j_iret 240 rfl dX12_settled_240
        · refine j_iload 233 1 dX12_settled_233 rfl ?_
          refine j_goto 235 240 dX12_settled_235 (by decide) ?_
          exact j_iret 240 rfl dX12_settled_240
      · refine j_iconst (v := (-1)) 29 dX12_settled_29 (by decide) ?_
        exact j_iret 30 rfl dX12_settled_30
set_option maxRecDepth 100000 in
set_option maxHeartbeats 4000000 in
theorem kX12_settled {ad : Nat → Nat → Nat} (F : Nat) (S : St) (p1 : Int32) (p2 : Int32) (p3 : Int32) : ∀ b, fX12_settled F S p1 p2 p3 = some b → ∀ l dC dI cy, CT l dC dI cy ad yX12_settled wsX12_settled 2 45 [.ref (ad 11 0), .int p1, .int p2, .int p3] S (some (.int b.1)) b.2 :=
  fun b hb l dC dI cy => ct_of (l := l) (dC := dC) (dI := dI) (cy := cy) outei (by decide) rfl (Nat.le_of_ble_eq_true rfl) rfl (fun X γ => tX12_settled X γ F S p1 p2 p3) b hb
-- X12_settlement
theorem nX12_settlement_X12 : ∀ w ∈ u_ws RX12 TX12 40, w ∈ wsX12_settlement := by decide +kernel
theorem wX12_settlement_c272 : Cond.constantLong RX12 272 (100000) ∈ wsX12_settlement := by decide +kernel
theorem wX12_settlement_c274 : Cond.constantLong RX12 274 (50) ∈ wsX12_settlement := by decide +kernel
theorem wX12_settlement_f276 : Cond.fieldLink RX12 276 "TwoTonguesModel" "settlementMany" "I" ∈ wsX12_settlement := by decide +kernel
theorem wX12_settlement_f64 : Cond.fieldLink RX12 64 "TwoTonguesModel" "sums" "[I" ∈ wsX12_settlement := by decide +kernel
theorem wX12_settlement_f67 : Cond.fieldLink RX12 67 "TwoTonguesModel" "ratios" "[I" ∈ wsX12_settlement := by decide +kernel
set_option maxRecDepth 100000 in
set_option maxHeartbeats 4000000 in
theorem tX12_settlement {ad : Nat → Nat → Nat} (X : Ctx) (γ : Nat → Nat) (S : St) (p1 : Int32) (p2 : Int32) : JJ X ad γ (RQm X ad 1 25 outei) (fcm outei) 1 25 cX12_settlement 3 RX12 wsX12_settlement (some .int) (fX12_settlement S p1 p2) S 0 [(0, .ref (ad 11 0)), (1, .int p1), (2, .int p2)] [] := by
  unfold fX12_settlement
  refine j_iload_n 0 1 dX12_settlement_0 rfl rfl ?_
  refine j_i2l 1 dX12_settlement_1 ?_
  refine j_lconst (v := 1) 2 dX12_settlement_2 (by decide) ?_
  refine j_ldc2 (v := 100000) 3 dX12_settlement_3 wX12_settlement_c272 ?_
  refine j_callS_pi 6  [.long p1.toInt64, .long 1, .long 100000] [] gX12_settlement_X12_in rfl eX12_in ⟨Nat.le_of_ble_eq_true rfl, Nat.le_of_ble_eq_true rfl⟩ rfl rfl (Nat.le_of_ble_eq_true rfl) dX12_settlement_6 (kX12_in S p1.toInt64 1 100000) (fun b_1 γ => ?_)
  refine j_if_eq 9 24 dX12_settlement_9 (by decide) (fun _ => ?_) (fun _ => ?_)
  · refine j_iconst (v := (-1)) 24 dX12_settlement_24 (by decide) ?_
    exact j_iret 25 rfl dX12_settlement_25
  · refine j_iload_n 12 2 dX12_settlement_12 rfl rfl ?_
    refine j_i2l 13 dX12_settlement_13 ?_
    refine j_lconst (v := 0) 14 dX12_settlement_14 (by decide) ?_
    refine j_ldc2 (v := 50) 15 dX12_settlement_15 wX12_settlement_c274 ?_
    refine j_callS_pi 18  [.long p2.toInt64, .long 0, .long 50] [] gX12_settlement_X12_in rfl eX12_in ⟨Nat.le_of_ble_eq_true rfl, Nat.le_of_ble_eq_true rfl⟩ rfl rfl (Nat.le_of_ble_eq_true rfl) dX12_settlement_18 (kX12_in S p2.toInt64 0 50) (fun b_2 γ => ?_)
    refine j_if_ne 21 26 dX12_settlement_21 (by decide) (fun _ => ?_) (fun _ => ?_)
    · refine j_aload_n 26 0 dX12_settlement_26 rfl rfl ?_
      refine j_geti 27 25 nX12_settlement_X12 rfl (by decide) (prs_mem (by decide) (by decide)) (by decide) (by decide) wX12_settlement_f276 (Or.inl rfl) rfl dX12_settlement_27 ?_
      refine j_bipush (v := 8) 30 dX12_settlement_30 (by decide) ?_
      refine j_icmp_ne 32 38 dX12_settlement_32 (by decide) (fun _ => ?_) (fun _ => ?_)
      · refine j_aload_n 38 0 dX12_settlement_38 rfl rfl ?_
        refine j_getr (c2 := 71) (n2 := 0) 39 26 nX12_settlement_X12 rfl (by decide) (prs_mem (by decide) (by decide)) (by decide) (by decide) wX12_settlement_f64 (Or.inl rfl) rfl rfl rfl dX12_settlement_39 ?_
        refine j_aload_n 42 0 dX12_settlement_42 rfl rfl ?_
        refine j_geti 43 25 nX12_settlement_X12 rfl (by decide) (prs_mem (by decide) (by decide)) (by decide) (by decide) wX12_settlement_f276 (Or.inl rfl) rfl dX12_settlement_43 ?_
        refine j_iload_n 46 1 dX12_settlement_46 rfl rfl ?_
        refine j_iast (c := 71) (n := 0) (L := 8) 47 (prs_mem (by decide) (by decide)) (by decide) rfl rfl rfl dX12_settlement_47 (j_bs (fun S_3 => ?_))
        refine j_aload_n 48 0 dX12_settlement_48 rfl rfl ?_
        refine j_getr (c2 := 72) (n2 := 0) 49 27 nX12_settlement_X12 rfl (by decide) (prs_mem (by decide) (by decide)) (by decide) (by decide) wX12_settlement_f67 (Or.inl rfl) rfl rfl rfl dX12_settlement_49 ?_
        refine j_aload_n 52 0 dX12_settlement_52 rfl rfl ?_
        refine j_geti 53 25 nX12_settlement_X12 rfl (by decide) (prs_mem (by decide) (by decide)) (by decide) (by decide) wX12_settlement_f276 (Or.inl rfl) rfl dX12_settlement_53 ?_
        refine j_iload_n 56 2 dX12_settlement_56 rfl rfl ?_
        refine j_iast (c := 72) (n := 0) (L := 8) 57 (prs_mem (by decide) (by decide)) (by decide) rfl rfl rfl dX12_settlement_57 (j_bs (fun S_4 => ?_))
        refine j_aload_n 58 0 dX12_settlement_58 rfl rfl ?_
        refine j_dup 59 dX12_settlement_59 rfl ?_
        refine j_geti 60 25 nX12_settlement_X12 rfl (by decide) (prs_mem (by decide) (by decide)) (by decide) (by decide) wX12_settlement_f276 (Or.inl rfl) rfl dX12_settlement_60 ?_
        refine j_iconst (v := 1) 63 dX12_settlement_63 (by decide) ?_
        refine j_iadd 64 dX12_settlement_64 ?_
        refine j_puti 65 25 nX12_settlement_X12 rfl (by decide) (prs_mem (by decide) (by decide)) (by decide) (by decide) wX12_settlement_f276 (Or.inl rfl) tyX12 tyX12_ok nmX12 rfl (by decide) rfl dX12_settlement_65 (j_bs (fun S_5 => ?_))
        refine j_aload_n 68 0 dX12_settlement_68 rfl rfl ?_
        refine j_geti 69 25 nX12_settlement_X12 rfl (by decide) (prs_mem (by decide) (by decide)) (by decide) (by decide) wX12_settlement_f276 (Or.inl rfl) rfl dX12_settlement_69 ?_
        refine j_iconst (v := 1) 72 dX12_settlement_72 (by decide) ?_
        refine j_isub 73 dX12_settlement_73 ?_
        exact j_iret 74 rfl dX12_settlement_74
      · refine j_bipush (v := (-3)) 35 dX12_settlement_35 (by decide) ?_
        exact j_iret 37 rfl dX12_settlement_37
    · refine j_iconst (v := (-1)) 24 dX12_settlement_24 (by decide) ?_
      exact j_iret 25 rfl dX12_settlement_25
set_option maxRecDepth 100000 in
set_option maxHeartbeats 4000000 in
theorem kX12_settlement {ad : Nat → Nat → Nat} (S : St) (p1 : Int32) (p2 : Int32) : ∀ b, fX12_settlement S p1 p2 = some b → ∀ l dC dI cy, CT l dC dI cy ad yX12_settlement wsX12_settlement 1 25 [.ref (ad 11 0), .int p1, .int p2] S (some (.int b.1)) b.2 :=
  fun b hb l dC dI cy => ct_of (l := l) (dC := dC) (dI := dI) (cy := cy) outei (by decide) rfl (Nat.le_of_ble_eq_true rfl) rfl (fun X γ => tX12_settlement X γ S p1 p2) b hb
-- X12_toppedOf
theorem nX12_toppedOf_X12 : ∀ w ∈ u_ws RX12 TX12 40, w ∈ wsX12_toppedOf := by decide +kernel
theorem wX12_toppedOf_f276 : Cond.fieldLink RX12 276 "TwoTonguesModel" "settlementMany" "I" ∈ wsX12_toppedOf := by decide +kernel
theorem wX12_toppedOf_f64 : Cond.fieldLink RX12 64 "TwoTonguesModel" "sums" "[I" ∈ wsX12_toppedOf := by decide +kernel
theorem wX12_toppedOf_f67 : Cond.fieldLink RX12 67 "TwoTonguesModel" "ratios" "[I" ∈ wsX12_toppedOf := by decide +kernel
set_option maxRecDepth 100000 in
set_option maxHeartbeats 4000000 in
theorem tX12_toppedOf_L6 {ad : Nat → Nat → Nat} (X : Ctx) (F : Nat) (S : St) (x1 : Int32)   : ∀ (n : Nat) (γ : Nat → Nat) (x2 : Int32) (x3 : Int32), JJ X ad γ (RQm X ad 0 0 (outpi S)) (fcm (outpi S)) 0 0 cX12_toppedOf 4 RX12 wsX12_toppedOf (some .int) (fX12_toppedOf_L6 F S x1 n x2 x3) S 6 [(0, .ref (ad 11 0)), (1, .int x1), (2, .int x2), (3, .int x3)] [] := by
  intro n
  induction n with
  | zero => intro _ _ _; exact j_none
  | succ n ih =>
    intro γ x2 x3
    rw [show fX12_toppedOf_L6 F S x1 (n + 1) x2 x3 = fX12_toppedOf_b6 F S x1 (fX12_toppedOf_L6 F S x1 n) x2 x3 from rfl]
    unfold fX12_toppedOf_b6
    refine j_iload_n 6 3 dX12_toppedOf_6 rfl rfl ?_
    refine j_aload_n 7 0 dX12_toppedOf_7 rfl rfl ?_
    refine j_geti 8 25 nX12_toppedOf_X12 rfl (by decide) (prs_mem (by decide) (by decide)) (by decide) (by decide) wX12_toppedOf_f276 (Or.inl rfl) rfl dX12_toppedOf_8 ?_
    refine j_icmp_ge 11 39 dX12_toppedOf_11 (by decide) (fun _ => ?_) (fun _ => ?_)
    · refine j_iload_n 39 2 dX12_toppedOf_39 rfl rfl ?_
      exact j_iret 40 rfl dX12_toppedOf_40
    · refine j_iload_n 14 2 dX12_toppedOf_14 rfl rfl ?_
      refine j_aload_n 15 0 dX12_toppedOf_15 rfl rfl ?_
      refine j_getr (c2 := 71) (n2 := 0) 16 26 nX12_toppedOf_X12 rfl (by decide) (prs_mem (by decide) (by decide)) (by decide) (by decide) wX12_toppedOf_f64 (Or.inl rfl) rfl rfl rfl dX12_toppedOf_16 ?_
      refine j_iload_n 19 3 dX12_toppedOf_19 rfl rfl ?_
      refine j_iald (c := 71) (n := 0) (L := 8) 20 (prs_mem (by decide) (by decide)) (by decide) rfl rfl rfl dX12_toppedOf_20 ?_
      refine j_aload_n 21 0 dX12_toppedOf_21 rfl rfl ?_
      refine j_getr (c2 := 72) (n2 := 0) 22 27 nX12_toppedOf_X12 rfl (by decide) (prs_mem (by decide) (by decide)) (by decide) (by decide) wX12_toppedOf_f67 (Or.inl rfl) rfl rfl rfl dX12_toppedOf_22 ?_
      refine j_iload_n 25 1 dX12_toppedOf_25 rfl rfl ?_
      refine j_iald (c := 72) (n := 0) (L := 8) 26 (prs_mem (by decide) (by decide)) (by decide) rfl rfl rfl dX12_toppedOf_26 ?_
      refine j_imul 27 dX12_toppedOf_27 ?_
      refine j_bipush (v := 100) 28 dX12_toppedOf_28 (by decide) ?_
      refine j_idiv 30 dX12_toppedOf_30 ?_
      refine j_iadd 31 dX12_toppedOf_31 ?_
      refine j_bndi (fun x2_2 => ?_)
      refine j_istore_n (lv2 := [(2, .int x2_2), (0, .ref (ad 11 0)), (1, .int x1), (3, .int x3)]) 32 dX12_toppedOf_32 rfl (by decide) rfl ?_
      refine j_iinc (v := x3 + 1) (lv2 := [(3, .int (x3 + 1)), (2, .int x2_2), (0, .ref (ad 11 0)), (1, .int x1)]) 33 3 dX12_toppedOf_33 rfl rfl (by decide) rfl ?_
      refine j_goto 36 6 dX12_toppedOf_36 (by decide) ?_
      refine j_sub [2, 3, 1, 0] rfl ?_
      exact ih _ x2_2 (x3 + 1)
set_option maxRecDepth 100000 in
set_option maxHeartbeats 4000000 in
theorem tX12_toppedOf {ad : Nat → Nat → Nat} (X : Ctx) (γ : Nat → Nat) (F : Nat) (S : St) (p1 : Int32) : JJ X ad γ (RQm X ad 0 0 (outpi S)) (fcm (outpi S)) 0 0 cX12_toppedOf 4 RX12 wsX12_toppedOf (some .int) (fX12_toppedOf F S p1) S 0 [(0, .ref (ad 11 0)), (1, .int p1)] [] := by
  unfold fX12_toppedOf
  refine j_iconst (v := 0) 0 dX12_toppedOf_0 (by decide) ?_
  refine j_istore_n (lv2 := [(2, .int 0), (0, .ref (ad 11 0)), (1, .int p1)]) 1 dX12_toppedOf_1 rfl (by decide) rfl ?_
  refine j_iload_n 2 2 dX12_toppedOf_2 rfl rfl ?_
  refine j_iconst (v := 1) 3 dX12_toppedOf_3 (by decide) ?_
  refine j_iadd 4 dX12_toppedOf_4 ?_
  refine j_bndi (fun x3_1 => ?_)
  refine j_istore_n (lv2 := [(3, .int x3_1), (2, .int 0), (0, .ref (ad 11 0)), (1, .int p1)]) 5 dX12_toppedOf_5 rfl (by decide) rfl ?_
  refine j_sub [2, 3, 1, 0] rfl ?_
  exact tX12_toppedOf_L6 X F S p1 F _ 0 x3_1
set_option maxRecDepth 100000 in
set_option maxHeartbeats 4000000 in
theorem kX12_toppedOf {ad : Nat → Nat → Nat} (F : Nat) (S : St) (p1 : Int32) : ∀ b, fX12_toppedOf F S p1 = some b → ∀ l dC dI cy, CT l dC dI cy ad yX12_toppedOf wsX12_toppedOf 0 0 [.ref (ad 11 0), .int p1] S (some (.int b)) S :=
  fun b hb l dC dI cy => ct_of (l := l) (dC := dC) (dI := dI) (cy := cy) (outpi S) (by decide) rfl (Nat.le_of_ble_eq_true rfl) rfl (fun X γ => tX12_toppedOf X γ F S p1) b hb
-- X12_topped
theorem nX12_topped_X12 : ∀ w ∈ u_ws RX12 TX12 40, w ∈ wsX12_topped := by decide +kernel
theorem wX12_topped_c204 : Cond.constantLong RX12 204 (-1) ∈ wsX12_topped := by decide +kernel
theorem wX12_topped_f276 : Cond.fieldLink RX12 276 "TwoTonguesModel" "settlementMany" "I" ∈ wsX12_topped := by decide +kernel
theorem wX12_topped_f64 : Cond.fieldLink RX12 64 "TwoTonguesModel" "sums" "[I" ∈ wsX12_topped := by decide +kernel
set_option maxRecDepth 100000 in
set_option maxHeartbeats 4000000 in
theorem tX12_topped_L34 {ad : Nat → Nat → Nat} (X : Ctx) (F : Nat) (S : St)   : ∀ (n : Nat) (γ : Nat → Nat) (x2 : Int32) (x3 : Int32), JJ X ad γ (RQm X ad 1 25 (outpi S)) (fcm (outpi S)) 1 25 cX12_topped 4 RX12 wsX12_topped (some .int) (fX12_topped_L34 F S n x2 x3) S 34 [(0, .ref (ad 11 0)), (2, .int x2), (3, .int x3)] [] := by
  intro n
  induction n with
  | zero => intro _ _ _; exact j_none
  | succ n ih =>
    intro γ x2 x3
    rw [show fX12_topped_L34 F S (n + 1) x2 x3 = fX12_topped_b34 F S (fX12_topped_L34 F S n) x2 x3 from rfl]
    unfold fX12_topped_b34
    refine j_iload_n 34 2 dX12_topped_34 rfl rfl ?_
    refine j_aload_n 35 0 dX12_topped_35 rfl rfl ?_
    refine j_geti 36 25 nX12_topped_X12 rfl (by decide) (prs_mem (by decide) (by decide)) (by decide) (by decide) wX12_topped_f276 (Or.inl rfl) rfl dX12_topped_36 ?_
    refine j_icmp_ge 39 63 dX12_topped_39 (by decide) (fun _ => ?_) (fun _ => ?_)
    · refine j_iload_n 63 1 dX12_topped_63 rfl rfl ?_
      exact j_iret 64 rfl dX12_topped_64
    · refine j_iload_n 42 1 dX12_topped_42 rfl rfl ?_
      refine j_aload_n 43 0 dX12_topped_43 rfl rfl ?_
      refine j_getr (c2 := 71) (n2 := 0) 44 26 nX12_topped_X12 rfl (by decide) (prs_mem (by decide) (by decide)) (by decide) (by decide) wX12_topped_f64 (Or.inl rfl) rfl rfl rfl dX12_topped_44 ?_
      refine j_iload_n 47 2 dX12_topped_47 rfl rfl ?_
      refine j_iald (c := 71) (n := 0) (L := 8) 48 (prs_mem (by decide) (by decide)) (by decide) rfl rfl rfl dX12_topped_48 ?_
      refine j_aload_n 49 0 dX12_topped_49 rfl rfl ?_
      refine j_iload_n 50 2 dX12_topped_50 rfl rfl ?_
      refine j_callV_pi 51 rfl (by decide) (prs_mem (by decide) (by decide))  [.int x3] [.int (gA S 71 0 x3.toNatClampNeg), .int x2] gX12_topped_X12_toppedOf rfl eX12_toppedOf ⟨Nat.le_of_ble_eq_true rfl, Nat.le_of_ble_eq_true rfl⟩ rfl rfl (Nat.le_of_ble_eq_true rfl) dX12_topped_51 (kX12_toppedOf F S x3) (fun b_2 γ => ?_)
      refine j_iadd 54 dX12_topped_54 ?_
      refine j_iadd 55 dX12_topped_55 ?_
      refine j_bndi (fun x2_3 => ?_)
      refine j_istore_n (lv2 := [(2, .int x2_3), (0, .ref (ad 11 0)), (3, .int x3)]) 56 dX12_topped_56 rfl (by decide) rfl ?_
      refine j_iinc (v := x3 + 1) (lv2 := [(3, .int (x3 + 1)), (2, .int x2_3), (0, .ref (ad 11 0))]) 57 2 dX12_topped_57 rfl rfl (by decide) rfl ?_
      refine j_goto 60 34 dX12_topped_60 (by decide) ?_
      refine j_sub [2, 1, 0] rfl ?_
      exact ih _ x2_3 (x3 + 1)
set_option maxRecDepth 100000 in
set_option maxHeartbeats 4000000 in
theorem tX12_topped {ad : Nat → Nat → Nat} (X : Ctx) (γ : Nat → Nat) (F : Nat) (S : St) (p1 : Int32) : JJ X ad γ (RQm X ad 1 25 (outpi S)) (fcm (outpi S)) 1 25 cX12_topped 4 RX12 wsX12_topped (some .int) (fX12_topped F S p1) S 0 [(0, .ref (ad 11 0)), (1, .int p1)] [] := by
  unfold fX12_topped
  refine j_iload_n 0 1 dX12_topped_0 rfl rfl ?_
  refine j_i2l 1 dX12_topped_1 ?_
  refine j_ldc2 (v := (-1)) 2 dX12_topped_2 wX12_topped_c204 ?_
  refine j_aload_n 5 0 dX12_topped_5 rfl rfl ?_
  refine j_geti 6 25 nX12_topped_X12 rfl (by decide) (prs_mem (by decide) (by decide)) (by decide) (by decide) wX12_topped_f276 (Or.inl rfl) rfl dX12_topped_6 ?_
  refine j_iconst (v := 1) 9 dX12_topped_9 (by decide) ?_
  refine j_isub 10 dX12_topped_10 ?_
  refine j_i2l 11 dX12_topped_11 ?_
  refine j_callS_pi 12  [.long p1.toInt64, .long (-1), .long ((gI S 11 0 25) - 1).toInt64] [] gX12_topped_X12_in rfl eX12_in ⟨Nat.le_of_ble_eq_true rfl, Nat.le_of_ble_eq_true rfl⟩ rfl rfl (Nat.le_of_ble_eq_true rfl) dX12_topped_12 (kX12_in S p1.toInt64 (-1) ((gI S 11 0 25) - 1).toInt64) (fun b_1 γ => ?_)
  refine j_if_ne 15 20 dX12_topped_15 (by decide) (fun _ => ?_) (fun _ => ?_)
  · refine j_iload_n 20 1 dX12_topped_20 rfl rfl ?_
    refine j_if_lt 21 30 dX12_topped_21 (by decide) (fun _ => ?_) (fun _ => ?_)
    · refine j_iconst (v := 0) 30 dX12_topped_30 (by decide) ?_
      refine j_istore_n (lv2 := [(2, .int 0), (0, .ref (ad 11 0)), (1, .int p1)]) 31 dX12_topped_31 rfl (by decide) rfl ?_
      refine j_iconst (v := 0) 32 dX12_topped_32 (by decide) ?_
      refine j_istore_n (lv2 := [(3, .int 0), (2, .int 0), (0, .ref (ad 11 0)), (1, .int p1)]) 33 dX12_topped_33 rfl (by decide) rfl ?_
      refine j_sub [2, 1, 0] rfl ?_
      exact tX12_topped_L34 X F S F _ 0 0
    · refine j_aload_n 24 0 dX12_topped_24 rfl rfl ?_
      refine j_iload_n 25 1 dX12_topped_25 rfl rfl ?_
      refine j_callV_pi 26 rfl (by decide) (prs_mem (by decide) (by decide))  [.int p1] [] gX12_topped_X12_toppedOf rfl eX12_toppedOf ⟨Nat.le_of_ble_eq_true rfl, Nat.le_of_ble_eq_true rfl⟩ rfl rfl (Nat.le_of_ble_eq_true rfl) dX12_topped_26 (kX12_toppedOf F S p1) (fun b_4 γ => ?_)
      exact j_iret 29 rfl dX12_topped_29
  · refine j_iconst (v := (-1)) 18 dX12_topped_18 (by decide) ?_
    exact j_iret 19 rfl dX12_topped_19
set_option maxRecDepth 100000 in
set_option maxHeartbeats 4000000 in
theorem kX12_topped {ad : Nat → Nat → Nat} (F : Nat) (S : St) (p1 : Int32) : ∀ b, fX12_topped F S p1 = some b → ∀ l dC dI cy, CT l dC dI cy ad yX12_topped wsX12_topped 1 25 [.ref (ad 11 0), .int p1] S (some (.int b)) S :=
  fun b hb l dC dI cy => ct_of (l := l) (dC := dC) (dI := dI) (cy := cy) (outpi S) (by decide) rfl (Nat.le_of_ble_eq_true rfl) rfl (fun X γ => tX12_topped X γ F S p1) b hb
-- X12_waits
theorem nX12_waits_X12 : ∀ w ∈ u_ws RX12 TX12 40, w ∈ wsX12_waits := by decide +kernel
theorem wX12_waits_f61 : Cond.fieldLink RX12 61 "TwoTonguesModel" "claims" "[I" ∈ wsX12_waits := by decide +kernel
set_option maxRecDepth 100000 in
set_option maxHeartbeats 4000000 in
theorem tX12_waits {ad : Nat → Nat → Nat} (X : Ctx) (γ : Nat → Nat) (F : Nat) (S : St) (p1 : Int32) (p2 : Int32) (p3 : Int32) : JJ X ad γ (RQm X ad 2 45 (outpi S)) (fcm (outpi S)) 2 45 cX12_waits 5 RX12 wsX12_waits (some .int) (fX12_waits F S p1 p2 p3) S 0 [(0, .ref (ad 11 0)), (1, .int p1), (2, .int p2), (3, .int p3)] [] := by
  unfold fX12_waits
  refine j_aload_n 0 0 dX12_waits_0 rfl rfl ?_
  refine j_iload_n 1 1 dX12_waits_1 rfl rfl ?_
  refine j_iconst (v := 5) 2 dX12_waits_2 (by decide) ?_
  refine j_callV_pi 3 rfl (by decide) (prs_mem (by decide) (by decide))  [.int p1, .int 5] [] gX12_waits_X12_sumOf rfl eX12_sumOf ⟨Nat.le_of_ble_eq_true rfl, Nat.le_of_ble_eq_true rfl⟩ rfl rfl (Nat.le_of_ble_eq_true rfl) dX12_waits_3 (kX12_sumOf F S p1 5) (fun b_1 γ => ?_)
  refine j_aload_n 6 0 dX12_waits_6 rfl rfl ?_
  refine j_getr (c2 := 70) (n2 := 0) 7 24 nX12_waits_X12 rfl (by decide) (prs_mem (by decide) (by decide)) (by decide) (by decide) wX12_waits_f61 (Or.inl rfl) rfl rfl rfl dX12_waits_7 ?_
  refine j_bipush (v := 6) 10 dX12_waits_10 (by decide) ?_
  refine j_iload_n 12 2 dX12_waits_12 rfl rfl ?_
  refine j_imul 13 dX12_waits_13 ?_
  refine j_iconst (v := 5) 14 dX12_waits_14 (by decide) ?_
  refine j_iadd 15 dX12_waits_15 ?_
  refine j_iald (c := 70) (n := 0) (L := 54) 16 (prs_mem (by decide) (by decide)) (by decide) rfl rfl rfl dX12_waits_16 ?_
  refine j_iadd 17 dX12_waits_17 ?_
  refine j_bndi (fun x4_2 => ?_)
  refine j_istore (lv2 := [(4, .int x4_2), (0, .ref (ad 11 0)), (1, .int p1), (2, .int p2), (3, .int p3)]) 18 dX12_waits_18 (by decide) rfl ?_
  refine j_aload_n 20 1 dX12_waits_20 rfl rfl ?_
  refine j_getr (c2 := 70) (n2 := 0) 21 24 nX12_waits_X12 rfl (by decide) (prs_mem (by decide) (by decide)) (by decide) (by decide) wX12_waits_f61 (Or.inl rfl) rfl rfl rfl dX12_waits_21 ?_
  refine j_bipush (v := 6) 24 dX12_waits_24 (by decide) ?_
  refine j_iload_n 26 3 dX12_waits_26 rfl rfl ?_
  refine j_imul 27 dX12_waits_27 ?_
  refine j_iconst (v := 1) 28 dX12_waits_28 (by decide) ?_
  refine j_iadd 29 dX12_waits_29 ?_
  refine j_iald (c := 70) (n := 0) (L := 54) 30 (prs_mem (by decide) (by decide)) (by decide) rfl rfl rfl dX12_waits_30 ?_
  refine j_iload 31 0 dX12_waits_31 rfl ?_
  refine j_iload_n 33 4 dX12_waits_33 rfl rfl ?_
  refine j_iadd 34 dX12_waits_34 ?_
  refine j_iconst (v := 1) 35 dX12_waits_35 (by decide) ?_
  refine j_isub 36 dX12_waits_36 ?_
  refine j_iload_n 37 4 dX12_waits_37 rfl rfl ?_
  refine j_idiv 38 dX12_waits_38 ?_
  refine j_iconst (v := 1) 39 dX12_waits_39 (by decide) ?_
  refine j_isub 40 dX12_waits_40 ?_
  refine j_imul 41 dX12_waits_41 ?_
  exact j_iret 42 rfl dX12_waits_42
set_option maxRecDepth 100000 in
set_option maxHeartbeats 4000000 in
theorem kX12_waits {ad : Nat → Nat → Nat} (F : Nat) (S : St) (p1 : Int32) (p2 : Int32) (p3 : Int32) : ∀ b, fX12_waits F S p1 p2 p3 = some b → ∀ l dC dI cy, CT l dC dI cy ad yX12_waits wsX12_waits 2 45 [.ref (ad 11 0), .int p1, .int p2, .int p3] S (some (.int b)) S :=
  fun b hb l dC dI cy => ct_of (l := l) (dC := dC) (dI := dI) (cy := cy) (outpi S) (by decide) rfl (Nat.le_of_ble_eq_true rfl) rfl (fun X γ => tX12_waits X γ F S p1 p2 p3) b hb
-- X12_plan
theorem nX12_plan_X12 : ∀ w ∈ u_ws RX12 TX12 40, w ∈ wsX12_plan := by decide +kernel
theorem wX12_plan_c255 : Cond.constantLong RX12 255 (1000) ∈ wsX12_plan := by decide +kernel
theorem wX12_plan_c114 : Cond.constantLong RX12 114 (255) ∈ wsX12_plan := by decide +kernel
theorem wX12_plan_f89 : Cond.fieldLink RX12 89 "TwoTonguesModel" "best" "[I" ∈ wsX12_plan := by decide +kernel
theorem wX12_plan_c282 : Cond.constant RX12 282 (2000000000) ∈ wsX12_plan := by decide +kernel
theorem wX12_plan_f257 : Cond.fieldLink RX12 257 "TwoTonguesModel" "claimMany" "I" ∈ wsX12_plan := by decide +kernel
set_option maxRecDepth 100000 in
set_option maxHeartbeats 4000000 in
theorem tX12_plan_j158 {ad : Nat → Nat → Nat} (X : Ctx) (γ : Nat → Nat) (F : Nat) (S : St) (x1 : Int32) (x3 : Int32) (x4 : Int32) (x5 : Int32) (x6 : Int32) (s0 : Int32) (s1 : Int32) (rec : Int32 → St → Option (Int32 × St))  (ih : ∀ (γ : Nat → Nat) (x6 : Int32) (S : St), JJ X ad γ (RQm X ad 3 69 outei) (fcm outei) 3 69 cX12_plan 9 RX12 wsX12_plan (some .int) (rec x6 S) S 80 [(0, .ref (ad 11 0)), (1, .int x1), (3, .int x3), (4, .int x4), (5, .int x5), (6, .int x6)] []) : JJ X ad γ (RQm X ad 3 69 outei) (fcm outei) 3 69 cX12_plan 9 RX12 wsX12_plan (some .int) (fX12_plan_j158 F S x1 x3 x4 x5 x6 s0 s1 rec) S 158 [(0, .ref (ad 11 0)), (1, .int x1), (3, .int x3), (4, .int x4), (5, .int x5), (6, .int x6)] [.int s0, .int s1, .ref (ad 79 0)] := by
  unfold fX12_plan_j158
  refine j_iast (c := 79) (n := 0) (L := 512) 158 (prs_mem (by decide) (by decide)) (by decide) rfl rfl rfl dX12_plan_158 (j_bs (fun S_10 => ?_))
  refine j_iinc (v := x6 + 1) (lv2 := [(6, .int (x6 + 1)), (0, .ref (ad 11 0)), (1, .int x1), (3, .int x3), (4, .int x4), (5, .int x5)]) 159 5 dX12_plan_159 rfl rfl (by decide) rfl ?_
  refine j_goto 162 80 dX12_plan_162 (by decide) ?_
  refine j_sub [1, 2, 3, 4, 5, 0] rfl ?_
  exact ih _ (x6 + 1) S_10
set_option maxRecDepth 100000 in
set_option maxHeartbeats 4000000 in
theorem tX12_plan_L80 {ad : Nat → Nat → Nat} (X : Ctx) (F : Nat) (x1 : Int32) (x3 : Int32) (x4 : Int32) (x5 : Int32) (k165 : St → Option (Int32 × St))  (hk165 : ∀ (γ : Nat → Nat) (S : St), JJ X ad γ (RQm X ad 3 69 outei) (fcm outei) 3 69 cX12_plan 9 RX12 wsX12_plan (some .int) (k165 S) S 165 [(0, .ref (ad 11 0)), (1, .int x1), (3, .int x3), (4, .int x4), (5, .int x5)] []) : ∀ (n : Nat) (γ : Nat → Nat) (x6 : Int32) (S : St), JJ X ad γ (RQm X ad 3 69 outei) (fcm outei) 3 69 cX12_plan 9 RX12 wsX12_plan (some .int) (fX12_plan_L80 F x1 x3 x4 x5 k165 n x6 S) S 80 [(0, .ref (ad 11 0)), (1, .int x1), (3, .int x3), (4, .int x4), (5, .int x5), (6, .int x6)] [] := by
  intro n
  induction n with
  | zero => intro _ _ _; exact j_none
  | succ n ih =>
    intro γ x6 S
    rw [show fX12_plan_L80 F x1 x3 x4 x5 k165 (n + 1) x6 S = fX12_plan_b80 F x1 x3 x4 x5 k165 (fX12_plan_L80 F x1 x3 x4 x5 k165 n) x6 S from rfl]
    unfold fX12_plan_b80
    refine j_iload 80 5 dX12_plan_80 rfl ?_
    refine j_aload_n 82 0 dX12_plan_82 rfl rfl ?_
    refine j_geti 83 23 nX12_plan_X12 rfl (by decide) (prs_mem (by decide) (by decide)) (by decide) (by decide) wX12_plan_f257 (Or.inl rfl) rfl dX12_plan_83 ?_
    refine j_icmp_ge 86 165 dX12_plan_86 (by decide) (fun _ => ?_) (fun _ => ?_)
    · refine j_sub [0, 1, 2, 3, 4] rfl ?_
      exact hk165 _ S
    · refine j_iload 89 3 dX12_plan_89 rfl ?_
      refine j_iload 91 4 dX12_plan_91 rfl ?_
      refine j_iconst (v := (-1)) 93 dX12_plan_93 (by decide) ?_
      refine j_ixor 94 dX12_plan_94 ?_
      refine j_iand 95 dX12_plan_95 ?_
      refine j_iload 96 5 dX12_plan_96 rfl ?_
      refine j_callS_pi 98  [.int (x4 &&& (x5 ^^^ (-1))), .int x6] [] gX12_plan_X12_has rfl eX12_has ⟨Nat.le_of_ble_eq_true rfl, Nat.le_of_ble_eq_true rfl⟩ rfl rfl (Nat.le_of_ble_eq_true rfl) dX12_plan_98 (kX12_has S (x4 &&& (x5 ^^^ (-1))) x6) (fun b_7 γ => ?_)
      refine j_if_eq 101 159 dX12_plan_101 (by decide) (fun _ => ?_) (fun _ => ?_)
      · refine j_iinc (v := x6 + 1) (lv2 := [(6, .int (x6 + 1)), (0, .ref (ad 11 0)), (1, .int x1), (3, .int x3), (4, .int x4), (5, .int x5)]) 159 5 dX12_plan_159 rfl rfl (by decide) rfl ?_
        refine j_goto 162 80 dX12_plan_162 (by decide) ?_
        refine j_sub [1, 2, 3, 4, 5, 0] rfl ?_
        exact ih _ (x6 + 1) S
      · refine j_aload_n 104 0 dX12_plan_104 rfl rfl ?_
        refine j_iload 105 4 dX12_plan_105 rfl ?_
        refine j_iload 107 5 dX12_plan_107 rfl ?_
        refine j_iload_n 109 1 dX12_plan_109 rfl rfl ?_
        refine j_callV_pi 110 rfl (by decide) (prs_mem (by decide) (by decide))  [.int x5, .int x6, .int x1] [] gX12_plan_X12_waits rfl eX12_waits ⟨Nat.le_of_ble_eq_true rfl, Nat.le_of_ble_eq_true rfl⟩ rfl rfl (Nat.le_of_ble_eq_true rfl) dX12_plan_110 (kX12_waits F S x5 x6 x1) (fun b_8 γ => ?_)
        refine j_aload_n 113 0 dX12_plan_113 rfl rfl ?_
        refine j_getr (c2 := 79) (n2 := 0) 114 38 nX12_plan_X12 rfl (by decide) (prs_mem (by decide) (by decide)) (by decide) (by decide) wX12_plan_f89 (Or.inl rfl) rfl rfl rfl dX12_plan_114 ?_
        refine j_iload 117 4 dX12_plan_117 rfl ?_
        refine j_iconst (v := 1) 119 dX12_plan_119 (by decide) ?_
        refine j_iload 120 5 dX12_plan_120 rfl ?_
        refine j_ishl 122 dX12_plan_122 ?_
        refine j_ior 123 dX12_plan_123 ?_
        refine j_iald (c := 79) (n := 0) (L := 512) 124 (prs_mem (by decide) (by decide)) (by decide) rfl rfl rfl dX12_plan_124 ?_
        refine j_iadd 125 dX12_plan_125 ?_
        refine j_bndi (fun x7_9 => ?_)
        refine j_istore (lv2 := [(7, .int x7_9), (0, .ref (ad 11 0)), (1, .int x1), (3, .int x3), (4, .int x4), (5, .int x5), (6, .int x6)]) 126 dX12_plan_126 (by decide) rfl ?_
        refine j_aload_n 128 1 dX12_plan_128 rfl rfl ?_
        refine j_getr (c2 := 79) (n2 := 0) 129 38 nX12_plan_X12 rfl (by decide) (prs_mem (by decide) (by decide)) (by decide) (by decide) wX12_plan_f89 (Or.inl rfl) rfl rfl rfl dX12_plan_129 ?_
        refine j_iload 132 5 dX12_plan_132 rfl ?_
        refine j_iload 134 0 dX12_plan_134 rfl ?_
        refine j_aload_n 136 1 dX12_plan_136 rfl rfl ?_
        refine j_getr (c2 := 79) (n2 := 0) 137 38 nX12_plan_X12 rfl (by decide) (prs_mem (by decide) (by decide)) (by decide) (by decide) wX12_plan_f89 (Or.inl rfl) rfl rfl rfl dX12_plan_137 ?_
        refine j_iload 140 5 dX12_plan_140 rfl ?_
        refine j_iald (c := 79) (n := 0) (L := 512) 142 (prs_mem (by decide) (by decide)) (by decide) rfl rfl rfl dX12_plan_142 ?_
        refine j_icmp_ge 143 151 dX12_plan_143 (by decide) (fun _ => ?_) (fun _ => ?_)
        · refine j_aload_n 151 1 dX12_plan_151 rfl rfl ?_
          refine j_getr (c2 := 79) (n2 := 0) 152 38 nX12_plan_X12 rfl (by decide) (prs_mem (by decide) (by decide)) (by decide) (by decide) wX12_plan_f89 (Or.inl rfl) rfl rfl rfl dX12_plan_152 ?_
          refine j_iload 155 5 dX12_plan_155 rfl ?_
          refine j_iald (c := 79) (n := 0) (L := 512) 157 (prs_mem (by decide) (by decide)) (by decide) rfl rfl rfl dX12_plan_157 ?_
          refine j_sub [1, 2, 3, 4, 5, 6] rfl ?_
          exact tX12_plan_j158 X _ F S x1 x3 x4 x5 x6 (gA S 79 0 x5.toNatClampNeg) x5 _ ih
        · refine j_iload 146 0 dX12_plan_146 rfl ?_
          refine j_goto 148 158 dX12_plan_148 (by decide) ?_
          refine j_sub [1, 2, 3, 4, 5, 6] rfl ?_
          exact tX12_plan_j158 X _ F S x1 x3 x4 x5 x6 x7_9 x5 _ ih
set_option maxRecDepth 100000 in
set_option maxHeartbeats 4000000 in
theorem tX12_plan_L52 {ad : Nat → Nat → Nat} (X : Ctx) (F : Nat) (x1 : Int32) (x3 : Int32) (x4 : Int32) (k171 : St → Option (Int32 × St))  (hk171 : ∀ (γ : Nat → Nat) (S : St), JJ X ad γ (RQm X ad 3 69 outei) (fcm outei) 3 69 cX12_plan 9 RX12 wsX12_plan (some .int) (k171 S) S 171 [(0, .ref (ad 11 0)), (1, .int x1), (3, .int x3), (4, .int x4)] []) : ∀ (n : Nat) (γ : Nat → Nat) (x5 : Int32) (S : St), JJ X ad γ (RQm X ad 3 69 outei) (fcm outei) 3 69 cX12_plan 9 RX12 wsX12_plan (some .int) (fX12_plan_L52 F x1 x3 x4 k171 n x5 S) S 52 [(0, .ref (ad 11 0)), (1, .int x1), (3, .int x3), (4, .int x4), (5, .int x5)] [] := by
  intro n
  induction n with
  | zero => intro _ _ _; exact j_none
  | succ n ih =>
    intro γ x5 S
    rw [show fX12_plan_L52 F x1 x3 x4 k171 (n + 1) x5 S = fX12_plan_b52 F x1 x3 x4 k171 (fX12_plan_L52 F x1 x3 x4 k171 n) x5 S from rfl]
    unfold fX12_plan_b52
    refine j_iload 52 4 dX12_plan_52 rfl ?_
    refine j_if_lt 54 171 dX12_plan_54 (by decide) (fun _ => ?_) (fun _ => ?_)
    · refine j_sub [0, 1, 2, 3] rfl ?_
      exact hk171 _ S
    · refine j_iload 57 4 dX12_plan_57 rfl ?_
      refine j_iload 59 3 dX12_plan_59 rfl ?_
      refine j_iconst (v := (-1)) 61 dX12_plan_61 (by decide) ?_
      refine j_ixor 62 dX12_plan_62 ?_
      refine j_iand 63 dX12_plan_63 ?_
      refine j_if_ne 64 165 dX12_plan_64 (by decide) (fun _ => ?_) (fun _ => ?_)
      · refine j_iinc (v := x5 + (-1)) (lv2 := [(5, .int (x5 + (-1))), (0, .ref (ad 11 0)), (1, .int x1), (3, .int x3), (4, .int x4)]) 165 4 dX12_plan_165 rfl rfl (by decide) rfl ?_
        refine j_goto 168 52 dX12_plan_168 (by decide) ?_
        refine j_sub [1, 2, 3, 4, 0] rfl ?_
        exact ih _ (x5 + (-1)) S
      · refine j_aload_n 67 0 dX12_plan_67 rfl rfl ?_
        refine j_getr (c2 := 79) (n2 := 0) 68 38 nX12_plan_X12 rfl (by decide) (prs_mem (by decide) (by decide)) (by decide) (by decide) wX12_plan_f89 (Or.inl rfl) rfl rfl rfl dX12_plan_68 ?_
        refine j_iload 71 4 dX12_plan_71 rfl ?_
        refine j_ldcw (v := 2000000000) 73 dX12_plan_73 wX12_plan_c282 ?_
        refine j_iast (c := 79) (n := 0) (L := 512) 76 (prs_mem (by decide) (by decide)) (by decide) rfl rfl rfl dX12_plan_76 (j_bs (fun S_6 => ?_))
        refine j_iconst (v := 0) 77 dX12_plan_77 (by decide) ?_
        refine j_istore (lv2 := [(6, .int 0), (0, .ref (ad 11 0)), (1, .int x1), (3, .int x3), (4, .int x4), (5, .int x5)]) 78 dX12_plan_78 (by decide) rfl ?_
        refine j_sub [1, 2, 3, 4, 5, 0] rfl ?_
        refine tX12_plan_L80 X F x1 x3 x4 x5 _ (fun γ S_11 => ?_) F _ 0 S_6
        refine j_iinc (v := x5 + (-1)) (lv2 := [(5, .int (x5 + (-1))), (0, .ref (ad 11 0)), (1, .int x1), (3, .int x3), (4, .int x4)]) 165 4 dX12_plan_165 rfl rfl (by decide) rfl ?_
        refine j_goto 168 52 dX12_plan_168 (by decide) ?_
        refine j_sub [1, 2, 3, 4, 0] rfl ?_
        exact ih _ (x5 + (-1)) S_11
set_option maxRecDepth 100000 in
set_option maxHeartbeats 4000000 in
theorem tX12_plan_L217 {ad : Nat → Nat → Nat} (X : Ctx) (F : Nat) (S : St) (x1 : Int32) (x3 : Int32) (x4 : Int32) (x5 : Int32) (x7 : Int32) (k295 : Int32 → Option (Int32 × St))  (hk295 : ∀ (γ : Nat → Nat) (x6 : Int32), JJ X ad γ (RQm X ad 3 69 outei) (fcm outei) 3 69 cX12_plan 9 RX12 wsX12_plan (some .int) (k295 x6) S 295 [(0, .ref (ad 11 0)), (1, .int x1), (3, .int x3), (4, .int x4), (5, .int x5), (6, .int x6), (7, .int x7)] []) : ∀ (n : Nat) (γ : Nat → Nat) (x6 : Int32) (x8 : Int32), JJ X ad γ (RQm X ad 3 69 outei) (fcm outei) 3 69 cX12_plan 9 RX12 wsX12_plan (some .int) (fX12_plan_L217 F S x1 x3 x4 x5 x7 k295 n x6 x8) S 217 [(0, .ref (ad 11 0)), (1, .int x1), (3, .int x3), (4, .int x4), (5, .int x5), (6, .int x6), (7, .int x7), (8, .int x8)] [] := by
  intro n
  induction n with
  | zero => intro _ _ _; exact j_none
  | succ n ih =>
    intro γ x6 x8
    rw [show fX12_plan_L217 F S x1 x3 x4 x5 x7 k295 (n + 1) x6 x8 = fX12_plan_b217 F S x1 x3 x4 x5 x7 k295 (fX12_plan_L217 F S x1 x3 x4 x5 x7 k295 n) x6 x8 from rfl]
    unfold fX12_plan_b217
    refine j_iload 217 7 dX12_plan_217 rfl ?_
    refine j_aload_n 219 0 dX12_plan_219 rfl rfl ?_
    refine j_geti 220 23 nX12_plan_X12 rfl (by decide) (prs_mem (by decide) (by decide)) (by decide) (by decide) wX12_plan_f257 (Or.inl rfl) rfl dX12_plan_220 ?_
    refine j_icmp_ge 223 295 dX12_plan_223 (by decide) (fun _ => ?_) (fun _ => ?_)
    · refine j_sub [0, 1, 2, 3, 4, 5, 6] rfl ?_
      exact hk295 _ x6
    · refine j_iload 226 5 dX12_plan_226 rfl ?_
      refine j_bipush (v := (-4)) 228 dX12_plan_228 (by decide) ?_
      refine j_icmp_ne 230 295 dX12_plan_230 (by decide) (fun _ => ?_) (fun _ => ?_)
      · refine j_sub [0, 1, 2, 3, 4, 5, 6] rfl ?_
        exact hk295 _ x6
      · refine j_iload 233 3 dX12_plan_233 rfl ?_
        refine j_iload 235 4 dX12_plan_235 rfl ?_
        refine j_iconst (v := (-1)) 237 dX12_plan_237 (by decide) ?_
        refine j_ixor 238 dX12_plan_238 ?_
        refine j_iand 239 dX12_plan_239 ?_
        refine j_iload 240 7 dX12_plan_240 rfl ?_
        refine j_callS_pi 242  [.int (x4 &&& (x5 ^^^ (-1))), .int x8] [] gX12_plan_X12_has rfl eX12_has ⟨Nat.le_of_ble_eq_true rfl, Nat.le_of_ble_eq_true rfl⟩ rfl rfl (Nat.le_of_ble_eq_true rfl) dX12_plan_242 (kX12_has S (x4 &&& (x5 ^^^ (-1))) x8) (fun b_14 γ => ?_)
        refine j_if_eq 245 285 dX12_plan_245 (by decide) (fun _ => ?_) (fun _ => ?_)
        · refine j_bipush (v := (-4)) 285 dX12_plan_285 (by decide) ?_
          refine j_istore (lv2 := [(6, .int (-4)), (0, .ref (ad 11 0)), (1, .int x1), (3, .int x3), (4, .int x4), (5, .int x5), (7, .int x7), (8, .int x8)]) 287 dX12_plan_287 (by decide) rfl ?_
          refine j_iinc (v := x8 + 1) (lv2 := [(8, .int (x8 + 1)), (6, .int (-4)), (0, .ref (ad 11 0)), (1, .int x1), (3, .int x3), (4, .int x4), (5, .int x5), (7, .int x7)]) 289 7 dX12_plan_289 rfl rfl (by decide) rfl ?_
          refine j_goto 292 217 dX12_plan_292 (by decide) ?_
          refine j_sub [2, 3, 4, 5, 6, 1, 7, 0] rfl ?_
          exact ih _ (-4) (x8 + 1)
        · refine j_aload_n 248 0 dX12_plan_248 rfl rfl ?_
          refine j_iload 249 4 dX12_plan_249 rfl ?_
          refine j_iload 251 7 dX12_plan_251 rfl ?_
          refine j_iload_n 253 1 dX12_plan_253 rfl rfl ?_
          refine j_callV_pi 254 rfl (by decide) (prs_mem (by decide) (by decide))  [.int x5, .int x8, .int x1] [] gX12_plan_X12_waits rfl eX12_waits ⟨Nat.le_of_ble_eq_true rfl, Nat.le_of_ble_eq_true rfl⟩ rfl rfl (Nat.le_of_ble_eq_true rfl) dX12_plan_254 (kX12_waits F S x5 x8 x1) (fun b_15 γ => ?_)
          refine j_aload_n 257 0 dX12_plan_257 rfl rfl ?_
          refine j_getr (c2 := 79) (n2 := 0) 258 38 nX12_plan_X12 rfl (by decide) (prs_mem (by decide) (by decide)) (by decide) (by decide) wX12_plan_f89 (Or.inl rfl) rfl rfl rfl dX12_plan_258 ?_
          refine j_iload 261 4 dX12_plan_261 rfl ?_
          refine j_iconst (v := 1) 263 dX12_plan_263 (by decide) ?_
          refine j_iload 264 7 dX12_plan_264 rfl ?_
          refine j_ishl 266 dX12_plan_266 ?_
          refine j_ior 267 dX12_plan_267 ?_
          refine j_iald (c := 79) (n := 0) (L := 512) 268 (prs_mem (by decide) (by decide)) (by decide) rfl rfl rfl dX12_plan_268 ?_
          refine j_iadd 269 dX12_plan_269 ?_
          refine j_aload_n 270 0 dX12_plan_270 rfl rfl ?_
          refine j_getr (c2 := 79) (n2 := 0) 271 38 nX12_plan_X12 rfl (by decide) (prs_mem (by decide) (by decide)) (by decide) (by decide) wX12_plan_f89 (Or.inl rfl) rfl rfl rfl dX12_plan_271 ?_
          refine j_iload 274 4 dX12_plan_274 rfl ?_
          refine j_iald (c := 79) (n := 0) (L := 512) 276 (prs_mem (by decide) (by decide)) (by decide) rfl rfl rfl dX12_plan_276 ?_
          refine j_icmp_ne 277 285 dX12_plan_277 (by decide) (fun _ => ?_) (fun _ => ?_)
          · refine j_bipush (v := (-4)) 285 dX12_plan_285 (by decide) ?_
            refine j_istore (lv2 := [(6, .int (-4)), (0, .ref (ad 11 0)), (1, .int x1), (3, .int x3), (4, .int x4), (5, .int x5), (7, .int x7), (8, .int x8)]) 287 dX12_plan_287 (by decide) rfl ?_
            refine j_iinc (v := x8 + 1) (lv2 := [(8, .int (x8 + 1)), (6, .int (-4)), (0, .ref (ad 11 0)), (1, .int x1), (3, .int x3), (4, .int x4), (5, .int x5), (7, .int x7)]) 289 7 dX12_plan_289 rfl rfl (by decide) rfl ?_
            refine j_goto 292 217 dX12_plan_292 (by decide) ?_
            refine j_sub [2, 3, 4, 5, 6, 1, 7, 0] rfl ?_
            exact ih _ (-4) (x8 + 1)
          · refine j_iload 280 7 dX12_plan_280 rfl ?_
            refine j_goto 282 287 dX12_plan_282 (by decide) ?_
            refine j_istore (lv2 := [(6, .int x8), (0, .ref (ad 11 0)), (1, .int x1), (3, .int x3), (4, .int x4), (5, .int x5), (7, .int x7), (8, .int x8)]) 287 dX12_plan_287 (by decide) rfl ?_
            refine j_iinc (v := x8 + 1) (lv2 := [(8, .int (x8 + 1)), (6, .int x8), (0, .ref (ad 11 0)), (1, .int x1), (3, .int x3), (4, .int x4), (5, .int x5), (7, .int x7)]) 289 7 dX12_plan_289 rfl rfl (by decide) rfl ?_
            refine j_goto 292 217 dX12_plan_292 (by decide) ?_
            refine j_sub [2, 3, 4, 5, 6, 1, 7, 0] rfl ?_
            exact ih _ x8 (x8 + 1)
set_option maxRecDepth 100000 in
set_option maxHeartbeats 4000000 in
theorem tX12_plan_j295 {ad : Nat → Nat → Nat} (X : Ctx) (γ : Nat → Nat) (F : Nat) (S : St) (x1 : Int32) (x3 : Int32) (x4 : Int32) (x5 : Int32) (x6 : Int32) (x7 : Int32) (rec : Int32 → Int32 → Int32 → Option (Int32 × St))  (ih : ∀ (γ : Nat → Nat) (x5 : Int32) (x6 : Int32) (x7 : Int32), JJ X ad γ (RQm X ad 3 69 outei) (fcm outei) 3 69 cX12_plan 9 RX12 wsX12_plan (some .int) (rec x5 x6 x7) S 204 [(0, .ref (ad 11 0)), (1, .int x1), (3, .int x3), (4, .int x4), (5, .int x5), (6, .int x6), (7, .int x7)] []) : JJ X ad γ (RQm X ad 3 69 outei) (fcm outei) 3 69 cX12_plan 9 RX12 wsX12_plan (some .int) (fX12_plan_j295 F S x1 x3 x4 x5 x6 x7 rec) S 295 [(0, .ref (ad 11 0)), (1, .int x1), (3, .int x3), (4, .int x4), (5, .int x5), (6, .int x6), (7, .int x7)] [] := by
  unfold fX12_plan_j295
  refine j_iload 295 4 dX12_plan_295 rfl ?_
  refine j_iconst (v := 1) 297 dX12_plan_297 (by decide) ?_
  refine j_iload 298 5 dX12_plan_298 rfl ?_
  refine j_ishl 300 dX12_plan_300 ?_
  refine j_ior 301 dX12_plan_301 ?_
  refine j_bndi (fun x5_17 => ?_)
  refine j_istore (lv2 := [(5, .int x5_17), (0, .ref (ad 11 0)), (1, .int x1), (3, .int x3), (4, .int x4), (6, .int x6), (7, .int x7)]) 302 dX12_plan_302 (by decide) rfl ?_
  refine j_iinc (v := x7 + 1) (lv2 := [(7, .int (x7 + 1)), (5, .int x5_17), (0, .ref (ad 11 0)), (1, .int x1), (3, .int x3), (4, .int x4), (6, .int x6)]) 304 6 dX12_plan_304 rfl rfl (by decide) rfl ?_
  refine j_goto 307 204 dX12_plan_307 (by decide) ?_
  refine j_sub [2, 3, 4, 5, 1, 6, 0] rfl ?_
  exact ih _ x5_17 x6 (x7 + 1)
set_option maxRecDepth 100000 in
set_option maxHeartbeats 4000000 in
theorem tX12_plan_L204 {ad : Nat → Nat → Nat} (X : Ctx) (F : Nat) (S : St) (x1 : Int32) (x3 : Int32) (x4 : Int32)   : ∀ (n : Nat) (γ : Nat → Nat) (x5 : Int32) (x6 : Int32) (x7 : Int32), JJ X ad γ (RQm X ad 3 69 outei) (fcm outei) 3 69 cX12_plan 9 RX12 wsX12_plan (some .int) (fX12_plan_L204 F S x1 x3 x4 n x5 x6 x7) S 204 [(0, .ref (ad 11 0)), (1, .int x1), (3, .int x3), (4, .int x4), (5, .int x5), (6, .int x6), (7, .int x7)] [] := by
  intro n
  induction n with
  | zero => intro _ _ _ _; exact j_none
  | succ n ih =>
    intro γ x5 x6 x7
    rw [show fX12_plan_L204 F S x1 x3 x4 (n + 1) x5 x6 x7 = fX12_plan_b204 F S x1 x3 x4 (fX12_plan_L204 F S x1 x3 x4 n) x5 x6 x7 from rfl]
    unfold fX12_plan_b204
    refine j_iload 204 6 dX12_plan_204 rfl ?_
    refine j_iload_n 206 2 dX12_plan_206 rfl rfl ?_
    refine j_icmp_gt 207 310 dX12_plan_207 (by decide) (fun _ => ?_) (fun _ => ?_)
    · refine j_iload 310 5 dX12_plan_310 rfl ?_
      exact j_iret 312 rfl dX12_plan_312
    · refine j_bipush (v := (-4)) 210 dX12_plan_210 (by decide) ?_
      refine j_istore (lv2 := [(6, .int (-4)), (0, .ref (ad 11 0)), (1, .int x1), (3, .int x3), (4, .int x4), (5, .int x5), (7, .int x7)]) 212 dX12_plan_212 (by decide) rfl ?_
      refine j_iconst (v := 0) 214 dX12_plan_214 (by decide) ?_
      refine j_istore (lv2 := [(8, .int 0), (6, .int (-4)), (0, .ref (ad 11 0)), (1, .int x1), (3, .int x3), (4, .int x4), (5, .int x5), (7, .int x7)]) 215 dX12_plan_215 (by decide) rfl ?_
      refine j_sub [2, 3, 4, 5, 6, 1, 7, 0] rfl ?_
      refine tX12_plan_L217 X F S x1 x3 x4 x5 x7 _ (fun γ x6_16 => ?_) F _ (-4) 0
      exact tX12_plan_j295 X _ F S x1 x3 x4 x5 x6_16 x7 _ ih
set_option maxRecDepth 100000 in
set_option maxHeartbeats 4000000 in
theorem tX12_plan {ad : Nat → Nat → Nat} (X : Ctx) (γ : Nat → Nat) (F : Nat) (S : St) (p1 : Int32) (p2 : Int32) (p3 : Int32) : JJ X ad γ (RQm X ad 3 69 outei) (fcm outei) 3 69 cX12_plan 9 RX12 wsX12_plan (some .int) (fX12_plan F S p1 p2 p3) S 0 [(0, .ref (ad 11 0)), (1, .int p1), (2, .int p2), (3, .int p3)] [] := by
  unfold fX12_plan
  refine j_iload_n 0 1 dX12_plan_0 rfl rfl ?_
  refine j_i2l 1 dX12_plan_1 ?_
  refine j_lconst (v := 1) 2 dX12_plan_2 (by decide) ?_
  refine j_ldc2 (v := 1000) 3 dX12_plan_3 wX12_plan_c255 ?_
  refine j_callS_pi 6  [.long p1.toInt64, .long 1, .long 1000] [] gX12_plan_X12_in rfl eX12_in ⟨Nat.le_of_ble_eq_true rfl, Nat.le_of_ble_eq_true rfl⟩ rfl rfl (Nat.le_of_ble_eq_true rfl) dX12_plan_6 (kX12_in S p1.toInt64 1 1000) (fun b_1 γ => ?_)
  refine j_if_eq 9 29 dX12_plan_9 (by decide) (fun _ => ?_) (fun _ => ?_)
  · refine j_iconst (v := (-1)) 29 dX12_plan_29 (by decide) ?_
    exact j_iret 30 rfl dX12_plan_30
  · refine j_iload_n 12 2 dX12_plan_12 rfl rfl ?_
    refine j_i2l 13 dX12_plan_13 ?_
    refine j_lconst (v := 0) 14 dX12_plan_14 (by decide) ?_
    refine j_ldc2 (v := 255) 15 dX12_plan_15 wX12_plan_c114 ?_
    refine j_callS_pi 18  [.long p2.toInt64, .long 0, .long 255] [] gX12_plan_X12_in rfl eX12_in ⟨Nat.le_of_ble_eq_true rfl, Nat.le_of_ble_eq_true rfl⟩ rfl rfl (Nat.le_of_ble_eq_true rfl) dX12_plan_18 (kX12_in S p2.toInt64 0 255) (fun b_2 γ => ?_)
    refine j_if_eq 21 29 dX12_plan_21 (by decide) (fun _ => ?_) (fun _ => ?_)
    · refine j_iconst (v := (-1)) 29 dX12_plan_29 (by decide) ?_
      exact j_iret 30 rfl dX12_plan_30
    · refine j_iload_n 24 3 dX12_plan_24 rfl rfl ?_
      refine j_iconst (v := (-1)) 25 dX12_plan_25 (by decide) ?_
      refine j_icmp_ge 26 31 dX12_plan_26 (by decide) (fun _ => ?_) (fun _ => ?_)
      · refine j_aload_n 31 0 dX12_plan_31 rfl rfl ?_
        refine j_iload_n 32 2 dX12_plan_32 rfl rfl ?_
        refine j_callV_pi 33 rfl (by decide) (prs_mem (by decide) (by decide))  [.int p2] [] gX12_plan_X12_foundedBy rfl eX12_foundedBy ⟨Nat.le_of_ble_eq_true rfl, Nat.le_of_ble_eq_true rfl⟩ rfl rfl (Nat.le_of_ble_eq_true rfl) dX12_plan_33 (kX12_foundedBy F S p2) (fun b_3 γ => ?_)
        refine j_istore (lv2 := [(4, .int b_3), (0, .ref (ad 11 0)), (1, .int p1), (2, .int p2), (3, .int p3)]) 36 dX12_plan_36 (by decide) rfl ?_
        refine j_aload_n 38 1 dX12_plan_38 rfl rfl ?_
        refine j_getr (c2 := 79) (n2 := 0) 39 38 nX12_plan_X12 rfl (by decide) (prs_mem (by decide) (by decide)) (by decide) (by decide) wX12_plan_f89 (Or.inl rfl) rfl rfl rfl dX12_plan_39 ?_
        refine j_iload 42 0 dX12_plan_42 rfl ?_
        refine j_iconst (v := 0) 44 dX12_plan_44 (by decide) ?_
        refine j_iast (c := 79) (n := 0) (L := 512) 45 (prs_mem (by decide) (by decide)) (by decide) rfl rfl rfl dX12_plan_45 (j_bs (fun S_4 => ?_))
        refine j_iload 46 0 dX12_plan_46 rfl ?_
        refine j_iconst (v := 1) 48 dX12_plan_48 (by decide) ?_
        refine j_isub 49 dX12_plan_49 ?_
        refine j_bndi (fun x5_5 => ?_)
        refine j_istore (lv2 := [(5, .int x5_5), (4, .int b_3), (0, .ref (ad 11 0)), (1, .int p1), (2, .int p2), (3, .int p3)]) 50 dX12_plan_50 (by decide) rfl ?_
        refine j_sub [2, 3, 5, 1, 0] rfl ?_
        refine tX12_plan_L52 X F p1 p3 b_3 _ (fun γ S_12 => ?_) F _ x5_5 S_4
        refine j_iload_n 171 2 dX12_plan_171 rfl rfl ?_
        refine j_if_ge 172 182 dX12_plan_172 (by decide) (fun _ => ?_) (fun _ => ?_)
        · refine j_iload_n 182 2 dX12_plan_182 rfl rfl ?_
          refine j_iload 183 3 dX12_plan_183 rfl ?_
          refine j_callS_pi 185  [.int b_3] [.int p3] gX12_plan_X12_bits rfl eX12_bits ⟨Nat.le_of_ble_eq_true rfl, Nat.le_of_ble_eq_true rfl⟩ rfl rfl (Nat.le_of_ble_eq_true rfl) dX12_plan_185 (kX12_bits F S_12 b_3) (fun b_13 γ => ?_)
          refine j_icmp_lt 188 194 dX12_plan_188 (by decide) (fun _ => ?_) (fun _ => ?_)
          · refine j_iconst (v := 0) 194 dX12_plan_194 (by decide) ?_
            refine j_istore (lv2 := [(5, .int 0), (0, .ref (ad 11 0)), (1, .int p1), (3, .int p3), (4, .int b_3)]) 195 dX12_plan_195 (by decide) rfl ?_
            refine j_bipush (v := (-4)) 197 dX12_plan_197 (by decide) ?_
            refine j_istore (lv2 := [(6, .int (-4)), (5, .int 0), (0, .ref (ad 11 0)), (1, .int p1), (3, .int p3), (4, .int b_3)]) 199 dX12_plan_199 (by decide) rfl ?_
            refine j_iconst (v := 0) 201 dX12_plan_201 (by decide) ?_
            refine j_istore (lv2 := [(7, .int 0), (6, .int (-4)), (5, .int 0), (0, .ref (ad 11 0)), (1, .int p1), (3, .int p3), (4, .int b_3)]) 202 dX12_plan_202 (by decide) rfl ?_
            refine j_sub [3, 4, 5, 6, 2, 1, 0] rfl ?_
            exact tX12_plan_L204 X F S_12 p1 p3 b_3 F _ 0 (-4) 0
          · refine j_bipush (v := (-4)) 191 dX12_plan_191 (by decide) ?_
            exact j_iret 193 rfl dX12_plan_193
        · refine j_aload_n 175 0 dX12_plan_175 rfl rfl ?_
          refine j_getr (c2 := 79) (n2 := 0) 176 38 nX12_plan_X12 rfl (by decide) (prs_mem (by decide) (by decide)) (by decide) (by decide) wX12_plan_f89 (Or.inl rfl) rfl rfl rfl dX12_plan_176 ?_
          refine j_iconst (v := 0) 179 dX12_plan_179 (by decide) ?_
          refine j_iald (c := 79) (n := 0) (L := 512) 180 (prs_mem (by decide) (by decide)) (by decide) rfl rfl rfl dX12_plan_180 ?_
          exact j_iret 181 rfl dX12_plan_181
      · refine j_iconst (v := (-1)) 29 dX12_plan_29 (by decide) ?_
        exact j_iret 30 rfl dX12_plan_30
set_option maxRecDepth 100000 in
set_option maxHeartbeats 4000000 in
theorem kX12_plan {ad : Nat → Nat → Nat} (F : Nat) (S : St) (p1 : Int32) (p2 : Int32) (p3 : Int32) : ∀ b, fX12_plan F S p1 p2 p3 = some b → ∀ l dC dI cy, CT l dC dI cy ad yX12_plan wsX12_plan 3 69 [.ref (ad 11 0), .int p1, .int p2, .int p3] S (some (.int b.1)) b.2 :=
  fun b hb l dC dI cy => ct_of (l := l) (dC := dC) (dI := dI) (cy := cy) outei (by decide) rfl (Nat.le_of_ble_eq_true rfl) rfl (fun X γ => tX12_plan X γ F S p1 p2 p3) b hb
-- X12_count
theorem nX12_count_X12 : ∀ w ∈ u_ws RX12 TX12 40, w ∈ wsX12_count := by decide +kernel
theorem wX12_count_f16 : Cond.fieldLink RX12 16 "TwoTonguesModel" "itemMany" "[I" ∈ wsX12_count := by decide +kernel
theorem wX12_count_f175 : Cond.fieldLink RX12 175 "TwoTonguesModel" "personMany" "I" ∈ wsX12_count := by decide +kernel
theorem wX12_count_f187 : Cond.fieldLink RX12 187 "TwoTonguesModel" "sayingMany" "I" ∈ wsX12_count := by decide +kernel
theorem wX12_count_f193 : Cond.fieldLink RX12 193 "TwoTonguesModel" "blockMany" "I" ∈ wsX12_count := by decide +kernel
theorem wX12_count_f198 : Cond.fieldLink RX12 198 "TwoTonguesModel" "holdMany" "I" ∈ wsX12_count := by decide +kernel
theorem wX12_count_f214 : Cond.fieldLink RX12 214 "TwoTonguesModel" "deedMany" "I" ∈ wsX12_count := by decide +kernel
theorem wX12_count_f217 : Cond.fieldLink RX12 217 "TwoTonguesModel" "takingMany" "I" ∈ wsX12_count := by decide +kernel
theorem wX12_count_f257 : Cond.fieldLink RX12 257 "TwoTonguesModel" "claimMany" "I" ∈ wsX12_count := by decide +kernel
theorem wX12_count_f276 : Cond.fieldLink RX12 276 "TwoTonguesModel" "settlementMany" "I" ∈ wsX12_count := by decide +kernel
theorem wX12_count_f7 : Cond.fieldLink RX12 7 "TwoTonguesModel" "length" "[I" ∈ wsX12_count := by decide +kernel
set_option maxRecDepth 100000 in
set_option maxHeartbeats 4000000 in
theorem tX12_count_j64 {ad : Nat → Nat → Nat} (X : Ctx) (γ : Nat → Nat) (S : St) (x1 : Int32)   : JJ X ad γ (RQm X ad 0 0 (outpi S)) (fcm (outpi S)) 0 0 cX12_count 2 RX12 wsX12_count (some .int) (fX12_count_j64 S x1) S 64 [(0, .ref (ad 11 0)), (1, .int x1)] [] := by
  unfold fX12_count_j64
  refine j_aload_n 64 0 dX12_count_64 rfl rfl ?_
  refine j_getr (c2 := 55) (n2 := 0) 65 2 nX12_count_X12 rfl (by decide) (prs_mem (by decide) (by decide)) (by decide) (by decide) wX12_count_f16 (Or.inl rfl) rfl rfl rfl dX12_count_65 ?_
  refine j_iload_n 68 1 dX12_count_68 rfl rfl ?_
  refine j_iald (c := 55) (n := 0) (L := 3) 69 (prs_mem (by decide) (by decide)) (by decide) rfl rfl rfl dX12_count_69 ?_
  exact j_iret 70 rfl dX12_count_70
set_option maxRecDepth 100000 in
set_option maxHeartbeats 4000000 in
theorem tX12_count_j111 {ad : Nat → Nat → Nat} (X : Ctx) (γ : Nat → Nat) (S : St) (x1 : Int32)   : JJ X ad γ (RQm X ad 0 0 (outpi S)) (fcm (outpi S)) 0 0 cX12_count 2 RX12 wsX12_count (some .int) (fX12_count_j111 S x1) S 111 [(0, .ref (ad 11 0)), (1, .int x1)] [] := by
  unfold fX12_count_j111
  refine j_aload_n 111 0 dX12_count_111 rfl rfl ?_
  refine j_getr (c2 := 53) (n2 := 0) 112 0 nX12_count_X12 rfl (by decide) (prs_mem (by decide) (by decide)) (by decide) (by decide) wX12_count_f7 (Or.inl rfl) rfl rfl rfl dX12_count_112 ?_
  refine j_iload_n 115 1 dX12_count_115 rfl rfl ?_
  refine j_bipush (v := 10) 116 dX12_count_116 (by decide) ?_
  refine j_isub 118 dX12_count_118 ?_
  refine j_iald (c := 53) (n := 0) (L := 2) 119 (prs_mem (by decide) (by decide)) (by decide) rfl rfl rfl dX12_count_119 ?_
  exact j_iret 120 rfl dX12_count_120
set_option maxRecDepth 100000 in
set_option maxHeartbeats 4000000 in
theorem tX12_count {ad : Nat → Nat → Nat} (X : Ctx) (γ : Nat → Nat) (S : St) (p1 : Int32) : JJ X ad γ (RQm X ad 0 0 (outpi S)) (fcm (outpi S)) 0 0 cX12_count 2 RX12 wsX12_count (some .int) (fX12_count S p1) S 0 [(0, .ref (ad 11 0)), (1, .int p1)] [] := by
  unfold fX12_count
  refine j_iload_n 0 1 dX12_count_0 rfl rfl ?_
  refine j_table (off := 63) 1 64 dX12_count_1 (by decide) (by decide) ?_ (fun h0 => ?_)
  · exact tX12_count_j64 X _ S p1
  refine j_table (off := 63) 1 64 dX12_count_1 (by decide) (by decide) ?_ (fun h1 => ?_)
  · exact tX12_count_j64 X _ S p1
  refine j_table (off := 70) 1 71 dX12_count_1 (by decide) (by decide) ?_ (fun h2 => ?_)
  · refine j_aload_n 71 0 dX12_count_71 rfl rfl ?_
    refine j_geti 72 6 nX12_count_X12 rfl (by decide) (prs_mem (by decide) (by decide)) (by decide) (by decide) wX12_count_f175 (Or.inl rfl) rfl dX12_count_72 ?_
    exact j_iret 75 rfl dX12_count_75
  refine j_table (off := 75) 1 76 dX12_count_1 (by decide) (by decide) ?_ (fun h3 => ?_)
  · refine j_aload_n 76 0 dX12_count_76 rfl rfl ?_
    refine j_geti 77 11 nX12_count_X12 rfl (by decide) (prs_mem (by decide) (by decide)) (by decide) (by decide) wX12_count_f187 (Or.inl rfl) rfl dX12_count_77 ?_
    exact j_iret 80 rfl dX12_count_80
  refine j_table (off := 80) 1 81 dX12_count_1 (by decide) (by decide) ?_ (fun h4 => ?_)
  · refine j_aload_n 81 0 dX12_count_81 rfl rfl ?_
    refine j_geti 82 13 nX12_count_X12 rfl (by decide) (prs_mem (by decide) (by decide)) (by decide) (by decide) wX12_count_f193 (Or.inl rfl) rfl dX12_count_82 ?_
    exact j_iret 85 rfl dX12_count_85
  refine j_table (off := 85) 1 86 dX12_count_1 (by decide) (by decide) ?_ (fun h5 => ?_)
  · refine j_aload_n 86 0 dX12_count_86 rfl rfl ?_
    refine j_geti 87 15 nX12_count_X12 rfl (by decide) (prs_mem (by decide) (by decide)) (by decide) (by decide) wX12_count_f198 (Or.inl rfl) rfl dX12_count_87 ?_
    exact j_iret 90 rfl dX12_count_90
  refine j_table (off := 90) 1 91 dX12_count_1 (by decide) (by decide) ?_ (fun h6 => ?_)
  · refine j_aload_n 91 0 dX12_count_91 rfl rfl ?_
    refine j_geti 92 17 nX12_count_X12 rfl (by decide) (prs_mem (by decide) (by decide)) (by decide) (by decide) wX12_count_f214 (Or.inl rfl) rfl dX12_count_92 ?_
    exact j_iret 95 rfl dX12_count_95
  refine j_table (off := 95) 1 96 dX12_count_1 (by decide) (by decide) ?_ (fun h7 => ?_)
  · refine j_aload_n 96 0 dX12_count_96 rfl rfl ?_
    refine j_geti 97 19 nX12_count_X12 rfl (by decide) (prs_mem (by decide) (by decide)) (by decide) (by decide) wX12_count_f217 (Or.inl rfl) rfl dX12_count_97 ?_
    exact j_iret 100 rfl dX12_count_100
  refine j_table (off := 100) 1 101 dX12_count_1 (by decide) (by decide) ?_ (fun h8 => ?_)
  · refine j_aload_n 101 0 dX12_count_101 rfl rfl ?_
    refine j_geti 102 23 nX12_count_X12 rfl (by decide) (prs_mem (by decide) (by decide)) (by decide) (by decide) wX12_count_f257 (Or.inl rfl) rfl dX12_count_102 ?_
    exact j_iret 105 rfl dX12_count_105
  refine j_table (off := 105) 1 106 dX12_count_1 (by decide) (by decide) ?_ (fun h9 => ?_)
  · refine j_aload_n 106 0 dX12_count_106 rfl rfl ?_
    refine j_geti 107 25 nX12_count_X12 rfl (by decide) (prs_mem (by decide) (by decide)) (by decide) (by decide) wX12_count_f276 (Or.inl rfl) rfl dX12_count_107 ?_
    exact j_iret 110 rfl dX12_count_110
  refine j_table (off := 110) 1 111 dX12_count_1 (by decide) (by decide) ?_ (fun h10 => ?_)
  · exact tX12_count_j111 X _ S p1
  refine j_table (off := 110) 1 111 dX12_count_1 (by decide) (by decide) ?_ (fun h11 => ?_)
  · exact tX12_count_j111 X _ S p1
  refine j_tableD 1 121 dX12_count_1 (tab_out h0 h1 h2 h3 h4 h5 h6 h7 h8 h9 h10 h11) (by decide) ?_
  refine j_iconst (v := (-1)) 121 dX12_count_121 (by decide) ?_
  exact j_iret 122 rfl dX12_count_122
set_option maxRecDepth 100000 in
set_option maxHeartbeats 4000000 in
theorem kX12_count {ad : Nat → Nat → Nat} (S : St) (p1 : Int32) : ∀ b, fX12_count S p1 = some b → ∀ l dC dI cy, CT l dC dI cy ad yX12_count wsX12_count 0 0 [.ref (ad 11 0), .int p1] S (some (.int b)) S :=
  fun b hb l dC dI cy => ct_of (l := l) (dC := dC) (dI := dI) (cy := cy) (outpi S) (by decide) rfl (Nat.le_of_ble_eq_true rfl) rfl (fun X γ => tX12_count X γ S p1) b hb
