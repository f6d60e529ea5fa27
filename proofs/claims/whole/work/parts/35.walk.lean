-- X12_item
theorem nX12_item_X12 : ∀ w ∈ u_ws RX12 TX12 40, w ∈ wsX12_item := by decide +kernel
theorem wX12_item_f116 : Cond.fieldLink RX12 116 "TwoTonguesModel" "at" "I" ∈ wsX12_item := by decide +kernel
theorem wX12_item_f70 : Cond.fieldLink RX12 70 "TwoTonguesModel" "told" "[I" ∈ wsX12_item := by decide +kernel
theorem wX12_item_c105 : Cond.constantLong RX12 105 (7) ∈ wsX12_item := by decide +kernel
theorem wX12_item_c134 : Cond.constantLong RX12 134 (5) ∈ wsX12_item := by decide +kernel
theorem wX12_item_c114 : Cond.constantLong RX12 114 (255) ∈ wsX12_item := by decide +kernel
theorem wX12_item_c110 : Cond.constantLong RX12 110 (63) ∈ wsX12_item := by decide +kernel
set_option maxRecDepth 100000 in
set_option maxHeartbeats 4000000 in
theorem tX12_item_j117 {ad : Nat → Nat → Nat} (X : Ctx) (γ : Nat → Nat) (F : Nat) (S : St) (x1 : Int32)   : JJ X ad γ (RQm X ad 2 50 outei) (fcm outei) 2 50 cX12_item 4 RX12 wsX12_item (some .boolean) (fX12_item_j117 F S x1) S 117 [(0, .ref (ad 11 0)), (1, .int x1)] [] := by
  unfold fX12_item_j117
  refine j_aload_n 117 0 dX12_item_117 rfl rfl ?_
  refine j_iload_n 118 1 dX12_item_118 rfl rfl ?_
  refine j_iconst (v := 5) 119 dX12_item_119 (by decide) ?_
  refine j_callV_ei 120 rfl (by decide) (prs_mem (by decide) (by decide))  [.int x1, .int 5] [] gX12_item_X12_numbers rfl eX12_numbers ⟨Nat.le_of_ble_eq_true rfl, Nat.le_of_ble_eq_true rfl⟩ rfl rfl (Nat.le_of_ble_eq_true rfl) dX12_item_120 (kX12_numbers F S x1 5) (fun b_3 γ => ?_)
  refine j_if_eq 123 214 dX12_item_123 (by decide) (fun _ => ?_) (fun _ => ?_)
  · refine j_iconst (v := 0) 214 dX12_item_214 (by decide) ?_
    exact j_zret 215 (by decide) rfl dX12_item_215
  · refine j_aload_n 126 0 dX12_item_126 rfl rfl ?_
    refine j_getr (c2 := 73) (n2 := 0) 127 29 nX12_item_X12 rfl (by decide) (prs_mem (by decide) (by decide)) (by decide) (by decide) wX12_item_f70 (Or.inl rfl) rfl rfl rfl dX12_item_127 ?_
    refine j_iconst (v := 0) 130 dX12_item_130 (by decide) ?_
    refine j_iald (c := 73) (n := 0) (L := 5) 131 (prs_mem (by decide) (by decide)) (by decide) rfl rfl rfl dX12_item_131 ?_
    refine j_i2l 132 dX12_item_132 ?_
    refine j_lconst (v := 0) 133 dX12_item_133 (by decide) ?_
    refine j_ldc2 (v := 7) 134 dX12_item_134 wX12_item_c105 ?_
    refine j_callS_pi 137  [.long (gA b_3.2 73 0 (0 : Int32).toNatClampNeg).toInt64, .long 0, .long 7] [] gX12_item_X12_in rfl eX12_in ⟨Nat.le_of_ble_eq_true rfl, Nat.le_of_ble_eq_true rfl⟩ rfl rfl (Nat.le_of_ble_eq_true rfl) dX12_item_137 (kX12_in b_3.2 (gA b_3.2 73 0 (0 : Int32).toNatClampNeg).toInt64 0 7) (fun b_4 γ => ?_)
    refine j_if_eq 140 214 dX12_item_140 (by decide) (fun _ => ?_) (fun _ => ?_)
    · refine j_iconst (v := 0) 214 dX12_item_214 (by decide) ?_
      exact j_zret 215 (by decide) rfl dX12_item_215
    · refine j_aload_n 143 0 dX12_item_143 rfl rfl ?_
      refine j_getr (c2 := 73) (n2 := 0) 144 29 nX12_item_X12 rfl (by decide) (prs_mem (by decide) (by decide)) (by decide) (by decide) wX12_item_f70 (Or.inl rfl) rfl rfl rfl dX12_item_144 ?_
      refine j_iconst (v := 1) 147 dX12_item_147 (by decide) ?_
      refine j_iald (c := 73) (n := 0) (L := 5) 148 (prs_mem (by decide) (by decide)) (by decide) rfl rfl rfl dX12_item_148 ?_
      refine j_i2l 149 dX12_item_149 ?_
      refine j_lconst (v := 0) 150 dX12_item_150 (by decide) ?_
      refine j_ldc2 (v := 5) 151 dX12_item_151 wX12_item_c134 ?_
      refine j_callS_pi 154  [.long (gA b_3.2 73 0 (1 : Int32).toNatClampNeg).toInt64, .long 0, .long 5] [] gX12_item_X12_in rfl eX12_in ⟨Nat.le_of_ble_eq_true rfl, Nat.le_of_ble_eq_true rfl⟩ rfl rfl (Nat.le_of_ble_eq_true rfl) dX12_item_154 (kX12_in b_3.2 (gA b_3.2 73 0 (1 : Int32).toNatClampNeg).toInt64 0 5) (fun b_5 γ => ?_)
      refine j_if_eq 157 214 dX12_item_157 (by decide) (fun _ => ?_) (fun _ => ?_)
      · refine j_iconst (v := 0) 214 dX12_item_214 (by decide) ?_
        exact j_zret 215 (by decide) rfl dX12_item_215
      · refine j_aload_n 160 0 dX12_item_160 rfl rfl ?_
        refine j_getr (c2 := 73) (n2 := 0) 161 29 nX12_item_X12 rfl (by decide) (prs_mem (by decide) (by decide)) (by decide) (by decide) wX12_item_f70 (Or.inl rfl) rfl rfl rfl dX12_item_161 ?_
        refine j_iconst (v := 2) 164 dX12_item_164 (by decide) ?_
        refine j_iald (c := 73) (n := 0) (L := 5) 165 (prs_mem (by decide) (by decide)) (by decide) rfl rfl rfl dX12_item_165 ?_
        refine j_i2l 166 dX12_item_166 ?_
        refine j_lconst (v := 0) 167 dX12_item_167 (by decide) ?_
        refine j_aload_n 168 0 dX12_item_168 rfl rfl ?_
        refine j_getr (c2 := 73) (n2 := 0) 169 29 nX12_item_X12 rfl (by decide) (prs_mem (by decide) (by decide)) (by decide) (by decide) wX12_item_f70 (Or.inl rfl) rfl rfl rfl dX12_item_169 ?_
        refine j_iconst (v := 3) 172 dX12_item_172 (by decide) ?_
        refine j_iald (c := 73) (n := 0) (L := 5) 173 (prs_mem (by decide) (by decide)) (by decide) rfl rfl rfl dX12_item_173 ?_
        refine j_i2l 174 dX12_item_174 ?_
        refine j_callS_pi 175  [.long (gA b_3.2 73 0 (2 : Int32).toNatClampNeg).toInt64, .long 0, .long (gA b_3.2 73 0 (3 : Int32).toNatClampNeg).toInt64] [] gX12_item_X12_in rfl eX12_in ⟨Nat.le_of_ble_eq_true rfl, Nat.le_of_ble_eq_true rfl⟩ rfl rfl (Nat.le_of_ble_eq_true rfl) dX12_item_175 (kX12_in b_3.2 (gA b_3.2 73 0 (2 : Int32).toNatClampNeg).toInt64 0 (gA b_3.2 73 0 (3 : Int32).toNatClampNeg).toInt64) (fun b_6 γ => ?_)
        refine j_if_eq 178 214 dX12_item_178 (by decide) (fun _ => ?_) (fun _ => ?_)
        · refine j_iconst (v := 0) 214 dX12_item_214 (by decide) ?_
          exact j_zret 215 (by decide) rfl dX12_item_215
        · refine j_aload_n 181 0 dX12_item_181 rfl rfl ?_
          refine j_getr (c2 := 73) (n2 := 0) 182 29 nX12_item_X12 rfl (by decide) (prs_mem (by decide) (by decide)) (by decide) (by decide) wX12_item_f70 (Or.inl rfl) rfl rfl rfl dX12_item_182 ?_
          refine j_iconst (v := 3) 185 dX12_item_185 (by decide) ?_
          refine j_iald (c := 73) (n := 0) (L := 5) 186 (prs_mem (by decide) (by decide)) (by decide) rfl rfl rfl dX12_item_186 ?_
          refine j_callS_pi 187  [.int (gA b_3.2 73 0 (3 : Int32).toNatClampNeg)] [] gX12_item_X12_isYear rfl eX12_isYear ⟨Nat.le_of_ble_eq_true rfl, Nat.le_of_ble_eq_true rfl⟩ rfl rfl (Nat.le_of_ble_eq_true rfl) dX12_item_187 (kX12_isYear b_3.2 (gA b_3.2 73 0 (3 : Int32).toNatClampNeg)) (fun b_7 γ => ?_)
          refine j_if_eq 190 214 dX12_item_190 (by decide) (fun _ => ?_) (fun _ => ?_)
          · refine j_iconst (v := 0) 214 dX12_item_214 (by decide) ?_
            exact j_zret 215 (by decide) rfl dX12_item_215
          · refine j_aload_n 193 0 dX12_item_193 rfl rfl ?_
            refine j_getr (c2 := 73) (n2 := 0) 194 29 nX12_item_X12 rfl (by decide) (prs_mem (by decide) (by decide)) (by decide) (by decide) wX12_item_f70 (Or.inl rfl) rfl rfl rfl dX12_item_194 ?_
            refine j_iconst (v := 4) 197 dX12_item_197 (by decide) ?_
            refine j_iald (c := 73) (n := 0) (L := 5) 198 (prs_mem (by decide) (by decide)) (by decide) rfl rfl rfl dX12_item_198 ?_
            refine j_i2l 199 dX12_item_199 ?_
            refine j_lconst (v := 0) 200 dX12_item_200 (by decide) ?_
            refine j_ldc2 (v := 255) 201 dX12_item_201 wX12_item_c114 ?_
            refine j_callS_pi 204  [.long (gA b_3.2 73 0 (4 : Int32).toNatClampNeg).toInt64, .long 0, .long 255] [] gX12_item_X12_in rfl eX12_in ⟨Nat.le_of_ble_eq_true rfl, Nat.le_of_ble_eq_true rfl⟩ rfl rfl (Nat.le_of_ble_eq_true rfl) dX12_item_204 (kX12_in b_3.2 (gA b_3.2 73 0 (4 : Int32).toNatClampNeg).toInt64 0 255) (fun b_8 γ => ?_)
            refine j_if_eq 207 214 dX12_item_207 (by decide) (fun _ => ?_) (fun _ => ?_)
            · refine j_iconst (v := 0) 214 dX12_item_214 (by decide) ?_
              exact j_zret 215 (by decide) rfl dX12_item_215
            · refine j_iconst (v := 1) 210 dX12_item_210 (by decide) ?_
              refine j_goto 211 215 dX12_item_211 (by decide) ?_
              exact j_zret 215 (by decide) rfl dX12_item_215
set_option maxRecDepth 100000 in
set_option maxHeartbeats 4000000 in
theorem tX12_item_j86 {ad : Nat → Nat → Nat} (X : Ctx) (γ : Nat → Nat) (F : Nat) (S : St) (s0 : Int32)   : JJ X ad γ (RQm X ad 2 50 outei) (fcm outei) 2 50 cX12_item 4 RX12 wsX12_item (some .boolean) (fX12_item_j86 F S s0) S 86 [(0, .ref (ad 11 0))] [.int s0] := by
  unfold fX12_item_j86
  refine j_istore_n (lv2 := [(3, .int s0), (0, .ref (ad 11 0))]) 86 dX12_item_86 rfl (by decide) rfl ?_
  refine j_aload_n 87 1 dX12_item_87 rfl rfl ?_
  refine j_getr (c2 := 73) (n2 := 0) 88 29 nX12_item_X12 rfl (by decide) (prs_mem (by decide) (by decide)) (by decide) (by decide) wX12_item_f70 (Or.inl rfl) rfl rfl rfl dX12_item_88 ?_
  refine j_iconst (v := 3) 91 dX12_item_91 (by decide) ?_
  refine j_iconst (v := 0) 92 dX12_item_92 (by decide) ?_
  refine j_iast (c := 73) (n := 0) (L := 5) 93 (prs_mem (by decide) (by decide)) (by decide) rfl rfl rfl dX12_item_93 (j_bs (fun S_10 => ?_))
  refine j_aload_n 94 1 dX12_item_94 rfl rfl ?_
  refine j_getr (c2 := 73) (n2 := 0) 95 29 nX12_item_X12 rfl (by decide) (prs_mem (by decide) (by decide)) (by decide) (by decide) wX12_item_f70 (Or.inl rfl) rfl rfl rfl dX12_item_95 ?_
  refine j_iconst (v := 4) 98 dX12_item_98 (by decide) ?_
  refine j_iconst (v := 0) 99 dX12_item_99 (by decide) ?_
  refine j_iast (c := 73) (n := 0) (L := 5) 100 (prs_mem (by decide) (by decide)) (by decide) rfl rfl rfl dX12_item_100 (j_bs (fun S_11 => ?_))
  refine j_iload_n 101 0 dX12_item_101 rfl rfl ?_
  refine j_gd (fun hz => ?_)
  exact j_zret 102 (isB_nar hz) rfl dX12_item_102
set_option maxRecDepth 100000 in
set_option maxHeartbeats 4000000 in
theorem tX12_item_j85 {ad : Nat → Nat → Nat} (X : Ctx) (γ : Nat → Nat) (F : Nat) (S : St)   : JJ X ad γ (RQm X ad 2 50 outei) (fcm outei) 2 50 cX12_item 4 RX12 wsX12_item (some .boolean) (fX12_item_j85 F S) S 85 [(0, .ref (ad 11 0))] [] := by
  unfold fX12_item_j85
  refine j_iconst (v := 0) 85 dX12_item_85 (by decide) ?_
  exact tX12_item_j86 X _ F S 0
set_option maxRecDepth 100000 in
set_option maxHeartbeats 4000000 in
theorem tX12_item {ad : Nat → Nat → Nat} (X : Ctx) (γ : Nat → Nat) (F : Nat) (S : St) (p1 : Int32) : JJ X ad γ (RQm X ad 2 50 outei) (fcm outei) 2 50 cX12_item 4 RX12 wsX12_item (some .boolean) (fX12_item F S p1) S 0 [(0, .ref (ad 11 0)), (1, .int p1)] [] := by
  unfold fX12_item
  refine j_aload_n 0 0 dX12_item_0 rfl rfl ?_
  refine j_iload_n 1 1 dX12_item_1 rfl rfl ?_
  refine j_aload_n 2 0 dX12_item_2 rfl rfl ?_
  refine j_geti 3 28 nX12_item_X12 rfl (by decide) (prs_mem (by decide) (by decide)) (by decide) (by decide) wX12_item_f116 (Or.inl rfl) rfl dX12_item_3 ?_
  refine j_callV_pi 6 rfl (by decide) (prs_mem (by decide) (by decide))  [.int p1, .int (gI S 11 0 28)] [] gX12_item_X12_byteAt rfl eX12_byteAt ⟨Nat.le_of_ble_eq_true rfl, Nat.le_of_ble_eq_true rfl⟩ rfl rfl (Nat.le_of_ble_eq_true rfl) dX12_item_6 (kX12_byteAt S p1 (gI S 11 0 28)) (fun b_1 γ => ?_)
  refine j_istore_n (lv2 := [(2, .int b_1), (0, .ref (ad 11 0)), (1, .int p1)]) 9 dX12_item_9 rfl (by decide) rfl ?_
  refine j_aload_n 10 1 dX12_item_10 rfl rfl ?_
  refine j_dup 11 dX12_item_11 rfl ?_
  refine j_geti 12 28 nX12_item_X12 rfl (by decide) (prs_mem (by decide) (by decide)) (by decide) (by decide) wX12_item_f116 (Or.inl rfl) rfl dX12_item_12 ?_
  refine j_iconst (v := 1) 15 dX12_item_15 (by decide) ?_
  refine j_iadd 16 dX12_item_16 ?_
  refine j_puti 17 28 nX12_item_X12 rfl (by decide) (prs_mem (by decide) (by decide)) (by decide) (by decide) wX12_item_f116 (Or.inl rfl) tyX12 tyX12_ok nmX12 rfl (by decide) rfl dX12_item_17 (j_bs (fun S_2 => ?_))
  refine j_iload_n 20 0 dX12_item_20 rfl rfl ?_
  refine j_bipush (v := 119) 21 dX12_item_21 (by decide) ?_
  refine j_icmp_ne 23 103 dX12_item_23 (by decide) (fun _ => ?_) (fun _ => ?_)
  · refine j_iload_n 103 0 dX12_item_103 rfl rfl ?_
    refine j_bipush (v := 108) 104 dX12_item_104 (by decide) ?_
    refine j_icmp_eq 106 117 dX12_item_106 (by decide) (fun _ => ?_) (fun _ => ?_)
    · refine j_sub [1, 2] rfl ?_
      exact tX12_item_j117 X _ F S_2 p1
    · refine j_iload_n 109 0 dX12_item_109 rfl rfl ?_
      refine j_bipush (v := 98) 110 dX12_item_110 (by decide) ?_
      refine j_icmp_eq 112 117 dX12_item_112 (by decide) (fun _ => ?_) (fun _ => ?_)
      · refine j_sub [1, 2] rfl ?_
        exact tX12_item_j117 X _ F S_2 p1
      · refine j_iconst (v := 0) 115 dX12_item_115 (by decide) ?_
        exact j_zret 116 (by decide) rfl dX12_item_116
  · refine j_aload_n 26 1 dX12_item_26 rfl rfl ?_
    refine j_iload_n 27 2 dX12_item_27 rfl rfl ?_
    refine j_iconst (v := 3) 28 dX12_item_28 (by decide) ?_
    refine j_callV_ei 29 rfl (by decide) (prs_mem (by decide) (by decide))  [.int p1, .int 3] [] gX12_item_X12_numbers rfl eX12_numbers ⟨Nat.le_of_ble_eq_true rfl, Nat.le_of_ble_eq_true rfl⟩ rfl rfl (Nat.le_of_ble_eq_true rfl) dX12_item_29 (kX12_numbers F S_2 p1 3) (fun b_9 γ => ?_)
    refine j_if_eq 32 85 dX12_item_32 (by decide) (fun _ => ?_) (fun _ => ?_)
    · refine j_sub [1] rfl ?_
      exact tX12_item_j85 X _ F b_9.2
    · refine j_aload_n 35 1 dX12_item_35 rfl rfl ?_
      refine j_getr (c2 := 73) (n2 := 0) 36 29 nX12_item_X12 rfl (by decide) (prs_mem (by decide) (by decide)) (by decide) (by decide) wX12_item_f70 (Or.inl rfl) rfl rfl rfl dX12_item_36 ?_
      refine j_iconst (v := 0) 39 dX12_item_39 (by decide) ?_
      refine j_iald (c := 73) (n := 0) (L := 5) 40 (prs_mem (by decide) (by decide)) (by decide) rfl rfl rfl dX12_item_40 ?_
      refine j_i2l 41 dX12_item_41 ?_
      refine j_lconst (v := 0) 42 dX12_item_42 (by decide) ?_
      refine j_ldc2 (v := 7) 43 dX12_item_43 wX12_item_c105 ?_
      refine j_callS_pi 46  [.long (gA b_9.2 73 0 (0 : Int32).toNatClampNeg).toInt64, .long 0, .long 7] [] gX12_item_X12_in rfl eX12_in ⟨Nat.le_of_ble_eq_true rfl, Nat.le_of_ble_eq_true rfl⟩ rfl rfl (Nat.le_of_ble_eq_true rfl) dX12_item_46 (kX12_in b_9.2 (gA b_9.2 73 0 (0 : Int32).toNatClampNeg).toInt64 0 7) (fun b_12 γ => ?_)
      refine j_if_eq 49 85 dX12_item_49 (by decide) (fun _ => ?_) (fun _ => ?_)
      · refine j_sub [1] rfl ?_
        exact tX12_item_j85 X _ F b_9.2
      · refine j_aload_n 52 1 dX12_item_52 rfl rfl ?_
        refine j_getr (c2 := 73) (n2 := 0) 53 29 nX12_item_X12 rfl (by decide) (prs_mem (by decide) (by decide)) (by decide) (by decide) wX12_item_f70 (Or.inl rfl) rfl rfl rfl dX12_item_53 ?_
        refine j_iconst (v := 1) 56 dX12_item_56 (by decide) ?_
        refine j_iald (c := 73) (n := 0) (L := 5) 57 (prs_mem (by decide) (by decide)) (by decide) rfl rfl rfl dX12_item_57 ?_
        refine j_callS_pi 58  [.int (gA b_9.2 73 0 (1 : Int32).toNatClampNeg)] [] gX12_item_X12_isYear rfl eX12_isYear ⟨Nat.le_of_ble_eq_true rfl, Nat.le_of_ble_eq_true rfl⟩ rfl rfl (Nat.le_of_ble_eq_true rfl) dX12_item_58 (kX12_isYear b_9.2 (gA b_9.2 73 0 (1 : Int32).toNatClampNeg)) (fun b_13 γ => ?_)
        refine j_if_eq 61 85 dX12_item_61 (by decide) (fun _ => ?_) (fun _ => ?_)
        · refine j_sub [1] rfl ?_
          exact tX12_item_j85 X _ F b_9.2
        · refine j_aload_n 64 1 dX12_item_64 rfl rfl ?_
          refine j_getr (c2 := 73) (n2 := 0) 65 29 nX12_item_X12 rfl (by decide) (prs_mem (by decide) (by decide)) (by decide) (by decide) wX12_item_f70 (Or.inl rfl) rfl rfl rfl dX12_item_65 ?_
          refine j_iconst (v := 2) 68 dX12_item_68 (by decide) ?_
          refine j_iald (c := 73) (n := 0) (L := 5) 69 (prs_mem (by decide) (by decide)) (by decide) rfl rfl rfl dX12_item_69 ?_
          refine j_i2l 70 dX12_item_70 ?_
          refine j_lconst (v := 0) 71 dX12_item_71 (by decide) ?_
          refine j_ldc2 (v := 63) 72 dX12_item_72 wX12_item_c110 ?_
          refine j_callS_pi 75  [.long (gA b_9.2 73 0 (2 : Int32).toNatClampNeg).toInt64, .long 0, .long 63] [] gX12_item_X12_in rfl eX12_in ⟨Nat.le_of_ble_eq_true rfl, Nat.le_of_ble_eq_true rfl⟩ rfl rfl (Nat.le_of_ble_eq_true rfl) dX12_item_75 (kX12_in b_9.2 (gA b_9.2 73 0 (2 : Int32).toNatClampNeg).toInt64 0 63) (fun b_14 γ => ?_)
          refine j_if_eq 78 85 dX12_item_78 (by decide) (fun _ => ?_) (fun _ => ?_)
          · refine j_sub [1] rfl ?_
            exact tX12_item_j85 X _ F b_9.2
          · refine j_iconst (v := 1) 81 dX12_item_81 (by decide) ?_
            refine j_goto 82 86 dX12_item_82 (by decide) ?_
            refine j_sub [1] rfl ?_
            exact tX12_item_j86 X _ F b_9.2 1
set_option maxRecDepth 100000 in
set_option maxHeartbeats 4000000 in
theorem kX12_item {ad : Nat → Nat → Nat} (F : Nat) (S : St) (p1 : Int32) : ∀ b, fX12_item F S p1 = some b → ∀ l dC dI cy, CT l dC dI cy ad yX12_item wsX12_item 2 50 [.ref (ad 11 0), .int p1] S (some (.int b.1)) b.2 :=
  fun b hb l dC dI cy => ct_of (l := l) (dC := dC) (dI := dI) (cy := cy) outei (by decide) rfl (Nat.le_of_ble_eq_true rfl) rfl (fun X γ => tX12_item X γ F S p1) b hb
-- X12_readAll
theorem nX12_readAll_X12 : ∀ w ∈ u_ws RX12 TX12 40, w ∈ wsX12_readAll := by decide +kernel
theorem wX12_readAll_f16 : Cond.fieldLink RX12 16 "TwoTonguesModel" "itemMany" "[I" ∈ wsX12_readAll := by decide +kernel
theorem wX12_readAll_f116 : Cond.fieldLink RX12 116 "TwoTonguesModel" "at" "I" ∈ wsX12_readAll := by decide +kernel
theorem wX12_readAll_f7 : Cond.fieldLink RX12 7 "TwoTonguesModel" "length" "[I" ∈ wsX12_readAll := by decide +kernel
theorem wX12_readAll_f19 : Cond.fieldLink RX12 19 "TwoTonguesModel" "items" "[I" ∈ wsX12_readAll := by decide +kernel
theorem wX12_readAll_f70 : Cond.fieldLink RX12 70 "TwoTonguesModel" "told" "[I" ∈ wsX12_readAll := by decide +kernel
set_option maxRecDepth 100000 in
set_option maxHeartbeats 4000000 in
theorem tX12_readAll_L69 {ad : Nat → Nat → Nat} (X : Ctx) (F : Nat) (x1 : Int32) (x3 : Int32) (k99 : St → Option (Int32 × St))  (hk99 : ∀ (γ : Nat → Nat) (S : St), JJ X ad γ (RQm X ad 3 73 outei) (fcm outei) 3 73 cX12_readAll 5 RX12 wsX12_readAll (some .int) (k99 S) S 99 [(0, .ref (ad 11 0)), (1, .int x1)] []) : ∀ (n : Nat) (γ : Nat → Nat) (x4 : Int32) (S : St), JJ X ad γ (RQm X ad 3 73 outei) (fcm outei) 3 73 cX12_readAll 5 RX12 wsX12_readAll (some .int) (fX12_readAll_L69 F x1 x3 k99 n x4 S) S 69 [(0, .ref (ad 11 0)), (1, .int x1), (3, .int x3), (4, .int x4)] [] := by
  intro n
  induction n with
  | zero => intro _ _ _; exact j_none
  | succ n ih =>
    intro γ x4 S
    rw [show fX12_readAll_L69 F x1 x3 k99 (n + 1) x4 S = fX12_readAll_b69 F x1 x3 k99 (fX12_readAll_L69 F x1 x3 k99 n) x4 S from rfl]
    unfold fX12_readAll_b69
    refine j_iload 69 3 dX12_readAll_69 rfl ?_
    refine j_iconst (v := 5) 71 dX12_readAll_71 (by decide) ?_
    refine j_icmp_ge 72 99 dX12_readAll_72 (by decide) (fun _ => ?_) (fun _ => ?_)
    · refine j_sub [0, 1] rfl ?_
      exact hk99 _ S
    · refine j_aload_n 75 0 dX12_readAll_75 rfl rfl ?_
      refine j_getr (c2 := 56) (n2 := 0) 76 3 nX12_readAll_X12 rfl (by decide) (prs_mem (by decide) (by decide)) (by decide) (by decide) wX12_readAll_f19 (Or.inl rfl) rfl rfl rfl dX12_readAll_76 ?_
      refine j_iload_n 79 2 dX12_readAll_79 rfl rfl ?_
      refine j_iconst (v := 1) 80 dX12_readAll_80 (by decide) ?_
      refine j_iadd 81 dX12_readAll_81 ?_
      refine j_iload 82 3 dX12_readAll_82 rfl ?_
      refine j_iadd 84 dX12_readAll_84 ?_
      refine j_aload_n 85 0 dX12_readAll_85 rfl rfl ?_
      refine j_getr (c2 := 73) (n2 := 0) 86 29 nX12_readAll_X12 rfl (by decide) (prs_mem (by decide) (by decide)) (by decide) (by decide) wX12_readAll_f70 (Or.inl rfl) rfl rfl rfl dX12_readAll_86 ?_
      refine j_iload 89 3 dX12_readAll_89 rfl ?_
      refine j_iald (c := 73) (n := 0) (L := 5) 91 (prs_mem (by decide) (by decide)) (by decide) rfl rfl rfl dX12_readAll_91 ?_
      refine j_iast (c := 56) (n := 0) (L := 720) 92 (prs_mem (by decide) (by decide)) (by decide) rfl rfl rfl dX12_readAll_92 (j_bs (fun S_8 => ?_))
      refine j_iinc (v := x4 + 1) (lv2 := [(4, .int (x4 + 1)), (0, .ref (ad 11 0)), (1, .int x1), (3, .int x3)]) 93 3 dX12_readAll_93 rfl rfl (by decide) rfl ?_
      refine j_goto 96 69 dX12_readAll_96 (by decide) ?_
      refine j_sub [1, 2, 3, 0] rfl ?_
      exact ih _ (x4 + 1) S_8
set_option maxRecDepth 100000 in
set_option maxHeartbeats 4000000 in
theorem tX12_readAll_L12 {ad : Nat → Nat → Nat} (X : Ctx) (F : Nat) (x1 : Int32)   : ∀ (n : Nat) (γ : Nat → Nat) (S : St), JJ X ad γ (RQm X ad 3 73 outei) (fcm outei) 3 73 cX12_readAll 5 RX12 wsX12_readAll (some .int) (fX12_readAll_L12 F x1 n S) S 12 [(0, .ref (ad 11 0)), (1, .int x1)] [] := by
  intro n
  induction n with
  | zero => intro _ _; exact j_none
  | succ n ih =>
    intro γ S
    rw [show fX12_readAll_L12 F x1 (n + 1) S = fX12_readAll_b12 F x1 (fX12_readAll_L12 F x1 n) S from rfl]
    unfold fX12_readAll_b12
    refine j_aload_n 12 0 dX12_readAll_12 rfl rfl ?_
    refine j_geti 13 28 nX12_readAll_X12 rfl (by decide) (prs_mem (by decide) (by decide)) (by decide) (by decide) wX12_readAll_f116 (Or.inl rfl) rfl dX12_readAll_13 ?_
    refine j_aload_n 16 0 dX12_readAll_16 rfl rfl ?_
    refine j_getr (c2 := 53) (n2 := 0) 17 0 nX12_readAll_X12 rfl (by decide) (prs_mem (by decide) (by decide)) (by decide) (by decide) wX12_readAll_f7 (Or.inl rfl) rfl rfl rfl dX12_readAll_17 ?_
    refine j_iload_n 20 1 dX12_readAll_20 rfl rfl ?_
    refine j_iald (c := 53) (n := 0) (L := 2) 21 (prs_mem (by decide) (by decide)) (by decide) rfl rfl rfl dX12_readAll_21 ?_
    refine j_icmp_ge 22 112 dX12_readAll_22 (by decide) (fun _ => ?_) (fun _ => ?_)
    · refine j_bipush (v := (-4)) 112 dX12_readAll_112 (by decide) ?_
      exact j_iret 114 rfl dX12_readAll_114
    · refine j_aload_n 25 0 dX12_readAll_25 rfl rfl ?_
      refine j_geti 26 28 nX12_readAll_X12 rfl (by decide) (prs_mem (by decide) (by decide)) (by decide) (by decide) wX12_readAll_f116 (Or.inl rfl) rfl dX12_readAll_26 ?_
      refine j_bndi (fun x2_3 => ?_)
      refine j_istore_n (lv2 := [(2, .int x2_3), (0, .ref (ad 11 0)), (1, .int x1)]) 29 dX12_readAll_29 rfl (by decide) rfl ?_
      refine j_aload_n 30 1 dX12_readAll_30 rfl rfl ?_
      refine j_iload_n 31 2 dX12_readAll_31 rfl rfl ?_
      refine j_callV_ei 32 rfl (by decide) (prs_mem (by decide) (by decide))  [.int x1] [] gX12_readAll_X12_item rfl eX12_item ⟨Nat.le_of_ble_eq_true rfl, Nat.le_of_ble_eq_true rfl⟩ rfl rfl (Nat.le_of_ble_eq_true rfl) dX12_readAll_32 (kX12_item F S x1) (fun b_4 γ => ?_)
      refine j_if_ne 35 40 dX12_readAll_35 (by decide) (fun _ => ?_) (fun _ => ?_)
      · refine j_sipush (v := 480) 40 dX12_readAll_40 (by decide) ?_
        refine j_bipush (v := 6) 43 dX12_readAll_43 (by decide) ?_
        refine j_aload_n 45 1 dX12_readAll_45 rfl rfl ?_
        refine j_getr (c2 := 55) (n2 := 0) 46 2 nX12_readAll_X12 rfl (by decide) (prs_mem (by decide) (by decide)) (by decide) (by decide) wX12_readAll_f16 (Or.inl rfl) rfl rfl rfl dX12_readAll_46 ?_
        refine j_iconst (v := 2) 49 dX12_readAll_49 (by decide) ?_
        refine j_iald (c := 55) (n := 0) (L := 3) 50 (prs_mem (by decide) (by decide)) (by decide) rfl rfl rfl dX12_readAll_50 ?_
        refine j_imul 51 dX12_readAll_51 ?_
        refine j_iadd 52 dX12_readAll_52 ?_
        refine j_bndi (fun x3_5 => ?_)
        refine j_istore_n (lv2 := [(3, .int x3_5), (2, .int x2_3), (0, .ref (ad 11 0)), (1, .int x1)]) 53 dX12_readAll_53 rfl (by decide) rfl ?_
        refine j_aload_n 54 2 dX12_readAll_54 rfl rfl ?_
        refine j_getr (c2 := 56) (n2 := 0) 55 3 nX12_readAll_X12 rfl (by decide) (prs_mem (by decide) (by decide)) (by decide) (by decide) wX12_readAll_f19 (Or.inl rfl) rfl rfl rfl dX12_readAll_55 ?_
        refine j_iload_n 58 0 dX12_readAll_58 rfl rfl ?_
        refine j_aload_n 59 2 dX12_readAll_59 rfl rfl ?_
        refine j_iload_n 60 3 dX12_readAll_60 rfl rfl ?_
        refine j_iload_n 61 1 dX12_readAll_61 rfl rfl ?_
        refine j_callV_pi 62 rfl (by decide) (prs_mem (by decide) (by decide))  [.int x1, .int x2_3] [.int x3_5, .ref (ad 56 0)] gX12_readAll_X12_byteAt rfl eX12_byteAt ⟨Nat.le_of_ble_eq_true rfl, Nat.le_of_ble_eq_true rfl⟩ rfl rfl (Nat.le_of_ble_eq_true rfl) dX12_readAll_62 (kX12_byteAt b_4.2 x1 x2_3) (fun b_6 γ => ?_)
        refine j_iast (c := 56) (n := 0) (L := 720) 65 (prs_mem (by decide) (by decide)) (by decide) rfl rfl rfl dX12_readAll_65 (j_bs (fun S_7 => ?_))
        refine j_iconst (v := 0) 66 dX12_readAll_66 (by decide) ?_
        refine j_istore (lv2 := [(4, .int 0), (3, .int x3_5), (2, .int x2_3), (0, .ref (ad 11 0)), (1, .int x1)]) 67 dX12_readAll_67 (by decide) rfl ?_
        refine j_sub [3, 4, 1, 0] rfl ?_
        refine tX12_readAll_L69 X F x1 x3_5 _ (fun γ S_9 => ?_) F _ 0 S_7
        refine j_aload_n 99 0 dX12_readAll_99 rfl rfl ?_
        refine j_getr (c2 := 55) (n2 := 0) 100 2 nX12_readAll_X12 rfl (by decide) (prs_mem (by decide) (by decide)) (by decide) (by decide) wX12_readAll_f16 (Or.inl rfl) rfl rfl rfl dX12_readAll_100 ?_
        refine j_iconst (v := 2) 103 dX12_readAll_103 (by decide) ?_
        refine j_dup2 104 dX12_readAll_104 rfl rfl ?_
        refine j_iald (c := 55) (n := 0) (L := 3) 105 (prs_mem (by decide) (by decide)) (by decide) rfl rfl rfl dX12_readAll_105 ?_
        refine j_iconst (v := 1) 106 dX12_readAll_106 (by decide) ?_
        refine j_iadd 107 dX12_readAll_107 ?_
        refine j_iast (c := 55) (n := 0) (L := 3) 108 (prs_mem (by decide) (by decide)) (by decide) rfl rfl rfl dX12_readAll_108 (j_bs (fun S_10 => ?_))
        refine j_goto 109 12 dX12_readAll_109 (by decide) ?_
        exact ih _ S_10
      · refine j_iload_n 38 0 dX12_readAll_38 rfl rfl ?_
        exact j_iret 39 rfl dX12_readAll_39
set_option maxRecDepth 100000 in
set_option maxHeartbeats 4000000 in
theorem tX12_readAll {ad : Nat → Nat → Nat} (X : Ctx) (γ : Nat → Nat) (F : Nat) (S : St) (p1 : Int32) : JJ X ad γ (RQm X ad 3 73 outei) (fcm outei) 3 73 cX12_readAll 5 RX12 wsX12_readAll (some .int) (fX12_readAll F S p1) S 0 [(0, .ref (ad 11 0)), (1, .int p1)] [] := by
  unfold fX12_readAll
  refine j_aload_n 0 0 dX12_readAll_0 rfl rfl ?_
  refine j_getr (c2 := 55) (n2 := 0) 1 2 nX12_readAll_X12 rfl (by decide) (prs_mem (by decide) (by decide)) (by decide) (by decide) wX12_readAll_f16 (Or.inl rfl) rfl rfl rfl dX12_readAll_1 ?_
  refine j_iconst (v := 2) 4 dX12_readAll_4 (by decide) ?_
  refine j_iconst (v := 0) 5 dX12_readAll_5 (by decide) ?_
  refine j_iast (c := 55) (n := 0) (L := 3) 6 (prs_mem (by decide) (by decide)) (by decide) rfl rfl rfl dX12_readAll_6 (j_bs (fun S_1 => ?_))
  refine j_aload_n 7 0 dX12_readAll_7 rfl rfl ?_
  refine j_iconst (v := 0) 8 dX12_readAll_8 (by decide) ?_
  refine j_puti 9 28 nX12_readAll_X12 rfl (by decide) (prs_mem (by decide) (by decide)) (by decide) (by decide) wX12_readAll_f116 (Or.inl rfl) tyX12 tyX12_ok nmX12 rfl (by decide) rfl dX12_readAll_9 (j_bs (fun S_2 => ?_))
  exact tX12_readAll_L12 X F p1 F _ S_2
set_option maxRecDepth 100000 in
set_option maxHeartbeats 4000000 in
theorem kX12_readAll {ad : Nat → Nat → Nat} (F : Nat) (S : St) (p1 : Int32) : ∀ b, fX12_readAll F S p1 = some b → ∀ l dC dI cy, CT l dC dI cy ad yX12_readAll wsX12_readAll 3 73 [.ref (ad 11 0), .int p1] S (some (.int b.1)) b.2 :=
  fun b hb l dC dI cy => ct_of (l := l) (dC := dC) (dI := dI) (cy := cy) outei (by decide) rfl (Nat.le_of_ble_eq_true rfl) rfl (fun X γ => tX12_readAll X γ F S p1) b hb
-- X12_fault
set_option maxRecDepth 100000 in
set_option maxHeartbeats 4000000 in
theorem tX12_fault {ad : Nat → Nat → Nat} (X : Ctx) (γ : Nat → Nat) (F : Nat) (S : St) (p1 : Int32) : JJ X ad γ (RQm X ad 4 97 outei) (fcm outei) 4 97 cX12_fault 2 RX12 wsX12_fault (some .int) (fX12_fault F S p1) S 0 [(0, .ref (ad 11 0)), (1, .int p1)] [] := by
  unfold fX12_fault
  refine j_iload_n 0 1 dX12_fault_0 rfl rfl ?_
  refine j_callS_pi 1  [.int p1] [] gX12_fault_X12_isTongue rfl eX12_isTongue ⟨Nat.le_of_ble_eq_true rfl, Nat.le_of_ble_eq_true rfl⟩ rfl rfl (Nat.le_of_ble_eq_true rfl) dX12_fault_1 (kX12_isTongue S p1) (fun b_1 γ => ?_)
  refine j_if_eq 4 15 dX12_fault_4 (by decide) (fun _ => ?_) (fun _ => ?_)
  · refine j_iconst (v := (-1)) 15 dX12_fault_15 (by decide) ?_
    exact j_iret 16 rfl dX12_fault_16
  · refine j_aload_n 7 0 dX12_fault_7 rfl rfl ?_
    refine j_iload_n 8 1 dX12_fault_8 rfl rfl ?_
    refine j_callV_ei 9 rfl (by decide) (prs_mem (by decide) (by decide))  [.int p1] [] gX12_fault_X12_readAll rfl eX12_readAll ⟨Nat.le_of_ble_eq_true rfl, Nat.le_of_ble_eq_true rfl⟩ rfl rfl (Nat.le_of_ble_eq_true rfl) dX12_fault_9 (kX12_readAll F S p1) (fun b_2 γ => ?_)
    refine j_goto 12 16 dX12_fault_12 (by decide) ?_
    exact j_iret 16 rfl dX12_fault_16
set_option maxRecDepth 100000 in
set_option maxHeartbeats 4000000 in
theorem kX12_fault {ad : Nat → Nat → Nat} (F : Nat) (S : St) (p1 : Int32) : ∀ b, fX12_fault F S p1 = some b → ∀ l dC dI cy, CT l dC dI cy ad yX12_fault wsX12_fault 4 97 [.ref (ad 11 0), .int p1] S (some (.int b.1)) b.2 :=
  fun b hb l dC dI cy => ct_of (l := l) (dC := dC) (dI := dI) (cy := cy) outei (by decide) rfl (Nat.le_of_ble_eq_true rfl) rfl (fun X γ => tX12_fault X γ F S p1) b hb
-- X12_force
theorem nX12_force_X12 : ∀ w ∈ u_ws RX12 TX12 40, w ∈ wsX12_force := by decide +kernel
theorem wX12_force_f16 : Cond.fieldLink RX12 16 "TwoTonguesModel" "itemMany" "[I" ∈ wsX12_force := by decide +kernel
theorem wX12_force_f19 : Cond.fieldLink RX12 19 "TwoTonguesModel" "items" "[I" ∈ wsX12_force := by decide +kernel
set_option maxRecDepth 100000 in
set_option maxHeartbeats 4000000 in
theorem tX12_force_L36 {ad : Nat → Nat → Nat} (X : Ctx) (F : Nat) (x1 : Int32) (k71 : St → Option (Int32 × St))  (hk71 : ∀ (γ : Nat → Nat) (S : St), JJ X ad γ (RQm X ad 4 97 outei) (fcm outei) 4 97 cX12_force 3 RX12 wsX12_force (some .int) (k71 S) S 71 [(0, .ref (ad 11 0)), (1, .int x1)] []) : ∀ (n : Nat) (γ : Nat → Nat) (x2 : Int32) (S : St), JJ X ad γ (RQm X ad 4 97 outei) (fcm outei) 4 97 cX12_force 3 RX12 wsX12_force (some .int) (fX12_force_L36 F x1 k71 n x2 S) S 36 [(0, .ref (ad 11 0)), (1, .int x1), (2, .int x2)] [] := by
  intro n
  induction n with
  | zero => intro _ _ _; exact j_none
  | succ n ih =>
    intro γ x2 S
    rw [show fX12_force_L36 F x1 k71 (n + 1) x2 S = fX12_force_b36 F x1 k71 (fX12_force_L36 F x1 k71 n) x2 S from rfl]
    unfold fX12_force_b36
    refine j_iload_n 36 2 dX12_force_36 rfl rfl ?_
    refine j_sipush (v := 240) 37 dX12_force_37 (by decide) ?_
    refine j_icmp_ge 40 71 dX12_force_40 (by decide) (fun _ => ?_) (fun _ => ?_)
    · refine j_sub [0, 1] rfl ?_
      exact hk71 _ S
    · refine j_aload_n 43 0 dX12_force_43 rfl rfl ?_
      refine j_getr (c2 := 56) (n2 := 0) 44 3 nX12_force_X12 rfl (by decide) (prs_mem (by decide) (by decide)) (by decide) (by decide) wX12_force_f19 (Or.inl rfl) rfl rfl rfl dX12_force_44 ?_
      refine j_sipush (v := 240) 47 dX12_force_47 (by decide) ?_
      refine j_iload_n 50 1 dX12_force_50 rfl rfl ?_
      refine j_imul 51 dX12_force_51 ?_
      refine j_iload_n 52 2 dX12_force_52 rfl rfl ?_
      refine j_iadd 53 dX12_force_53 ?_
      refine j_aload_n 54 0 dX12_force_54 rfl rfl ?_
      refine j_getr (c2 := 56) (n2 := 0) 55 3 nX12_force_X12 rfl (by decide) (prs_mem (by decide) (by decide)) (by decide) (by decide) wX12_force_f19 (Or.inl rfl) rfl rfl rfl dX12_force_55 ?_
      refine j_sipush (v := 480) 58 dX12_force_58 (by decide) ?_
      refine j_iload_n 61 2 dX12_force_61 rfl rfl ?_
      refine j_iadd 62 dX12_force_62 ?_
      refine j_iald (c := 56) (n := 0) (L := 720) 63 (prs_mem (by decide) (by decide)) (by decide) rfl rfl rfl dX12_force_63 ?_
      refine j_iast (c := 56) (n := 0) (L := 720) 64 (prs_mem (by decide) (by decide)) (by decide) rfl rfl rfl dX12_force_64 (j_bs (fun S_4 => ?_))
      refine j_iinc (v := x2 + 1) (lv2 := [(2, .int (x2 + 1)), (0, .ref (ad 11 0)), (1, .int x1)]) 65 2 dX12_force_65 rfl rfl (by decide) rfl ?_
      refine j_goto 68 36 dX12_force_68 (by decide) ?_
      refine j_sub [1, 2, 0] rfl ?_
      exact ih _ (x2 + 1) S_4
set_option maxRecDepth 100000 in
set_option maxHeartbeats 4000000 in
theorem tX12_force {ad : Nat → Nat → Nat} (X : Ctx) (γ : Nat → Nat) (F : Nat) (S : St) (p1 : Int32) : JJ X ad γ (RQm X ad 4 97 outei) (fcm outei) 4 97 cX12_force 3 RX12 wsX12_force (some .int) (fX12_force F S p1) S 0 [(0, .ref (ad 11 0)), (1, .int p1)] [] := by
  unfold fX12_force
  refine j_iload_n 0 1 dX12_force_0 rfl rfl ?_
  refine j_callS_pi 1  [.int p1] [] gX12_force_X12_isTongue rfl eX12_isTongue ⟨Nat.le_of_ble_eq_true rfl, Nat.le_of_ble_eq_true rfl⟩ rfl rfl (Nat.le_of_ble_eq_true rfl) dX12_force_1 (kX12_isTongue S p1) (fun b_1 γ => ?_)
  refine j_if_ne 4 9 dX12_force_4 (by decide) (fun _ => ?_) (fun _ => ?_)
  · refine j_aload_n 9 0 dX12_force_9 rfl rfl ?_
    refine j_iload_n 10 1 dX12_force_10 rfl rfl ?_
    refine j_callV_ei 11 rfl (by decide) (prs_mem (by decide) (by decide))  [.int p1] [] gX12_force_X12_readAll rfl eX12_readAll ⟨Nat.le_of_ble_eq_true rfl, Nat.le_of_ble_eq_true rfl⟩ rfl rfl (Nat.le_of_ble_eq_true rfl) dX12_force_11 (kX12_readAll F S p1) (fun b_2 γ => ?_)
    refine j_bipush (v := (-4)) 14 dX12_force_14 (by decide) ?_
    refine j_icmp_eq 16 22 dX12_force_16 (by decide) (fun _ => ?_) (fun _ => ?_)
    · refine j_aload_n 22 0 dX12_force_22 rfl rfl ?_
      refine j_getr (c2 := 55) (n2 := 0) 23 2 nX12_force_X12 rfl (by decide) (prs_mem (by decide) (by decide)) (by decide) (by decide) wX12_force_f16 (Or.inl rfl) rfl rfl rfl dX12_force_23 ?_
      refine j_iload_n 26 1 dX12_force_26 rfl rfl ?_
      refine j_aload_n 27 0 dX12_force_27 rfl rfl ?_
      refine j_getr (c2 := 55) (n2 := 0) 28 2 nX12_force_X12 rfl (by decide) (prs_mem (by decide) (by decide)) (by decide) (by decide) wX12_force_f16 (Or.inl rfl) rfl rfl rfl dX12_force_28 ?_
      refine j_iconst (v := 2) 31 dX12_force_31 (by decide) ?_
      refine j_iald (c := 55) (n := 0) (L := 3) 32 (prs_mem (by decide) (by decide)) (by decide) rfl rfl rfl dX12_force_32 ?_
      refine j_iast (c := 55) (n := 0) (L := 3) 33 (prs_mem (by decide) (by decide)) (by decide) rfl rfl rfl dX12_force_33 (j_bs (fun S_3 => ?_))
      refine j_iconst (v := 0) 34 dX12_force_34 (by decide) ?_
      refine j_istore_n (lv2 := [(2, .int 0), (0, .ref (ad 11 0)), (1, .int p1)]) 35 dX12_force_35 rfl (by decide) rfl ?_
      refine j_sub [1, 2, 0] rfl ?_
      refine tX12_force_L36 X F p1 _ (fun γ S_5 => ?_) F _ 0 S_3
      refine j_aload_n 71 0 dX12_force_71 rfl rfl ?_
      refine j_getr (c2 := 55) (n2 := 0) 72 2 nX12_force_X12 rfl (by decide) (prs_mem (by decide) (by decide)) (by decide) (by decide) wX12_force_f16 (Or.inl rfl) rfl rfl rfl dX12_force_72 ?_
      refine j_iload_n 75 1 dX12_force_75 rfl rfl ?_
      refine j_iald (c := 55) (n := 0) (L := 3) 76 (prs_mem (by decide) (by decide)) (by decide) rfl rfl rfl dX12_force_76 ?_
      exact j_iret 77 rfl dX12_force_77
    · refine j_bipush (v := (-2)) 19 dX12_force_19 (by decide) ?_
      exact j_iret 21 rfl dX12_force_21
  · refine j_iconst (v := (-1)) 7 dX12_force_7 (by decide) ?_
    exact j_iret 8 rfl dX12_force_8
set_option maxRecDepth 100000 in
set_option maxHeartbeats 4000000 in
theorem kX12_force {ad : Nat → Nat → Nat} (F : Nat) (S : St) (p1 : Int32) : ∀ b, fX12_force F S p1 = some b → ∀ l dC dI cy, CT l dC dI cy ad yX12_force wsX12_force 4 97 [.ref (ad 11 0), .int p1] S (some (.int b.1)) b.2 :=
  fun b hb l dC dI cy => ct_of (l := l) (dC := dC) (dI := dI) (cy := cy) outei (by decide) rfl (Nat.le_of_ble_eq_true rfl) rfl (fun X γ => tX12_force X γ F S p1) b hb
-- X12_meaning
theorem nX12_meaning_X12 : ∀ w ∈ u_ws RX12 TX12 40, w ∈ wsX12_meaning := by decide +kernel
theorem wX12_meaning_f22 : Cond.fieldLink RX12 22 "TwoTonguesModel" "bookMany" "[I" ∈ wsX12_meaning := by decide +kernel
theorem wX12_meaning_f25 : Cond.fieldLink RX12 25 "TwoTonguesModel" "books" "[I" ∈ wsX12_meaning := by decide +kernel
theorem wX12_meaning_f16 : Cond.fieldLink RX12 16 "TwoTonguesModel" "itemMany" "[I" ∈ wsX12_meaning := by decide +kernel
theorem wX12_meaning_f19 : Cond.fieldLink RX12 19 "TwoTonguesModel" "items" "[I" ∈ wsX12_meaning := by decide +kernel
set_option maxRecDepth 100000 in
set_option maxHeartbeats 4000000 in
theorem tX12_meaning_L9 {ad : Nat → Nat → Nat} (X : Ctx) (F : Nat) (S : St) (x1 : Int32) (x2 : Int32) (x3 : Int32) (k97 : Int32 → Int32 → Option Int32)  (hk97 : ∀ (γ : Nat → Nat) (x4 : Int32) (x5 : Int32), JJ X ad γ (RQm X ad 0 0 (outpi S)) (fcm (outpi S)) 0 0 cX12_meaning 8 RX12 wsX12_meaning (some .int) (k97 x4 x5) S 97 [(0, .ref (ad 11 0)), (1, .int x1), (2, .int x2), (3, .int x3), (4, .int x4), (5, .int x5)] []) : ∀ (n : Nat) (γ : Nat → Nat) (x4 : Int32) (x5 : Int32) (x6 : Int32), JJ X ad γ (RQm X ad 0 0 (outpi S)) (fcm (outpi S)) 0 0 cX12_meaning 8 RX12 wsX12_meaning (some .int) (fX12_meaning_L9 F S x1 x2 x3 k97 n x4 x5 x6) S 9 [(0, .ref (ad 11 0)), (1, .int x1), (2, .int x2), (3, .int x3), (4, .int x4), (5, .int x5), (6, .int x6)] [] := by
  intro n
  induction n with
  | zero => intro _ _ _ _; exact j_none
  | succ n ih =>
    intro γ x4 x5 x6
    rw [show fX12_meaning_L9 F S x1 x2 x3 k97 (n + 1) x4 x5 x6 = fX12_meaning_b9 F S x1 x2 x3 k97 (fX12_meaning_L9 F S x1 x2 x3 k97 n) x4 x5 x6 from rfl]
    unfold fX12_meaning_b9
    refine j_iload 9 6 dX12_meaning_9 rfl ?_
    refine j_aload_n 11 0 dX12_meaning_11 rfl rfl ?_
    refine j_getr (c2 := 57) (n2 := 0) 12 4 nX12_meaning_X12 rfl (by decide) (prs_mem (by decide) (by decide)) (by decide) (by decide) wX12_meaning_f22 (Or.inl rfl) rfl rfl rfl dX12_meaning_12 ?_
    refine j_iload_n 15 1 dX12_meaning_15 rfl rfl ?_
    refine j_iald (c := 57) (n := 0) (L := 2) 16 (prs_mem (by decide) (by decide)) (by decide) rfl rfl rfl dX12_meaning_16 ?_
    refine j_icmp_ge 17 97 dX12_meaning_17 (by decide) (fun _ => ?_) (fun _ => ?_)
    · refine j_sub [0, 1, 2, 3, 4, 5] rfl ?_
      exact hk97 _ x4 x5
    · refine j_bipush (v := 60) 20 dX12_meaning_20 (by decide) ?_
      refine j_iload_n 22 1 dX12_meaning_22 rfl rfl ?_
      refine j_imul 23 dX12_meaning_23 ?_
      refine j_iconst (v := 3) 24 dX12_meaning_24 (by decide) ?_
      refine j_iload 25 6 dX12_meaning_25 rfl ?_
      refine j_imul 27 dX12_meaning_27 ?_
      refine j_iadd 28 dX12_meaning_28 ?_
      refine j_bndi (fun x7_1 => ?_)
      refine j_istore (lv2 := [(7, .int x7_1), (0, .ref (ad 11 0)), (1, .int x1), (2, .int x2), (3, .int x3), (4, .int x4), (5, .int x5), (6, .int x6)]) 29 dX12_meaning_29 (by decide) rfl ?_
      refine j_aload_n 31 1 dX12_meaning_31 rfl rfl ?_
      refine j_getr (c2 := 58) (n2 := 0) 32 5 nX12_meaning_X12 rfl (by decide) (prs_mem (by decide) (by decide)) (by decide) (by decide) wX12_meaning_f25 (Or.inl rfl) rfl rfl rfl dX12_meaning_32 ?_
      refine j_iload 35 0 dX12_meaning_35 rfl ?_
      refine j_iald (c := 58) (n := 0) (L := 120) 37 (prs_mem (by decide) (by decide)) (by decide) rfl rfl rfl dX12_meaning_37 ?_
      refine j_iload_n 38 3 dX12_meaning_38 rfl rfl ?_
      refine j_icmp_ne 39 91 dX12_meaning_39 (by decide) (fun _ => ?_) (fun _ => ?_)
      · refine j_iinc (v := x6 + 1) (lv2 := [(6, .int (x6 + 1)), (7, .int x7_1), (0, .ref (ad 11 0)), (1, .int x1), (2, .int x2), (3, .int x3), (4, .int x4), (5, .int x5)]) 91 7 dX12_meaning_91 rfl rfl (by decide) rfl ?_
        refine j_goto 94 9 dX12_meaning_94 (by decide) ?_
        refine j_sub [2, 3, 4, 5, 6, 7, 0] rfl ?_
        exact ih _ x4 x5 (x6 + 1)
      · refine j_aload_n 42 1 dX12_meaning_42 rfl rfl ?_
        refine j_getr (c2 := 58) (n2 := 0) 43 5 nX12_meaning_X12 rfl (by decide) (prs_mem (by decide) (by decide)) (by decide) (by decide) wX12_meaning_f25 (Or.inl rfl) rfl rfl rfl dX12_meaning_43 ?_
        refine j_iload 46 0 dX12_meaning_46 rfl ?_
        refine j_iconst (v := 1) 48 dX12_meaning_48 (by decide) ?_
        refine j_iadd 49 dX12_meaning_49 ?_
        refine j_iald (c := 58) (n := 0) (L := 120) 50 (prs_mem (by decide) (by decide)) (by decide) rfl rfl rfl dX12_meaning_50 ?_
        refine j_iload_n 51 4 dX12_meaning_51 rfl rfl ?_
        refine j_icmp_gt 52 91 dX12_meaning_52 (by decide) (fun _ => ?_) (fun _ => ?_)
        · refine j_iinc (v := x6 + 1) (lv2 := [(6, .int (x6 + 1)), (7, .int x7_1), (0, .ref (ad 11 0)), (1, .int x1), (2, .int x2), (3, .int x3), (4, .int x4), (5, .int x5)]) 91 7 dX12_meaning_91 rfl rfl (by decide) rfl ?_
          refine j_goto 94 9 dX12_meaning_94 (by decide) ?_
          refine j_sub [2, 3, 4, 5, 6, 7, 0] rfl ?_
          exact ih _ x4 x5 (x6 + 1)
        · refine j_aload_n 55 1 dX12_meaning_55 rfl rfl ?_
          refine j_getr (c2 := 58) (n2 := 0) 56 5 nX12_meaning_X12 rfl (by decide) (prs_mem (by decide) (by decide)) (by decide) (by decide) wX12_meaning_f25 (Or.inl rfl) rfl rfl rfl dX12_meaning_56 ?_
          refine j_iload 59 0 dX12_meaning_59 rfl ?_
          refine j_iconst (v := 1) 61 dX12_meaning_61 (by decide) ?_
          refine j_iadd 62 dX12_meaning_62 ?_
          refine j_iald (c := 58) (n := 0) (L := 120) 63 (prs_mem (by decide) (by decide)) (by decide) rfl rfl rfl dX12_meaning_63 ?_
          refine j_iload 64 5 dX12_meaning_64 rfl ?_
          refine j_icmp_lt 66 91 dX12_meaning_66 (by decide) (fun _ => ?_) (fun _ => ?_)
          · refine j_iinc (v := x6 + 1) (lv2 := [(6, .int (x6 + 1)), (7, .int x7_1), (0, .ref (ad 11 0)), (1, .int x1), (2, .int x2), (3, .int x3), (4, .int x4), (5, .int x5)]) 91 7 dX12_meaning_91 rfl rfl (by decide) rfl ?_
            refine j_goto 94 9 dX12_meaning_94 (by decide) ?_
            refine j_sub [2, 3, 4, 5, 6, 7, 0] rfl ?_
            exact ih _ x4 x5 (x6 + 1)
          · refine j_aload_n 69 1 dX12_meaning_69 rfl rfl ?_
            refine j_getr (c2 := 58) (n2 := 0) 70 5 nX12_meaning_X12 rfl (by decide) (prs_mem (by decide) (by decide)) (by decide) (by decide) wX12_meaning_f25 (Or.inl rfl) rfl rfl rfl dX12_meaning_70 ?_
            refine j_iload 73 0 dX12_meaning_73 rfl ?_
            refine j_iconst (v := 1) 75 dX12_meaning_75 (by decide) ?_
            refine j_iadd 76 dX12_meaning_76 ?_
            refine j_iald (c := 58) (n := 0) (L := 120) 77 (prs_mem (by decide) (by decide)) (by decide) rfl rfl rfl dX12_meaning_77 ?_
            refine j_bndi (fun x4_2 => ?_)
            refine j_istore (lv2 := [(4, .int x4_2), (7, .int x7_1), (0, .ref (ad 11 0)), (1, .int x1), (2, .int x2), (3, .int x3), (5, .int x5), (6, .int x6)]) 78 dX12_meaning_78 (by decide) rfl ?_
            refine j_aload_n 80 2 dX12_meaning_80 rfl rfl ?_
            refine j_getr (c2 := 58) (n2 := 0) 81 5 nX12_meaning_X12 rfl (by decide) (prs_mem (by decide) (by decide)) (by decide) (by decide) wX12_meaning_f25 (Or.inl rfl) rfl rfl rfl dX12_meaning_81 ?_
            refine j_iload 84 1 dX12_meaning_84 rfl ?_
            refine j_iconst (v := 2) 86 dX12_meaning_86 (by decide) ?_
            refine j_iadd 87 dX12_meaning_87 ?_
            refine j_iald (c := 58) (n := 0) (L := 120) 88 (prs_mem (by decide) (by decide)) (by decide) rfl rfl rfl dX12_meaning_88 ?_
            refine j_bndi (fun x5_3 => ?_)
            refine j_istore (lv2 := [(5, .int x5_3), (4, .int x4_2), (7, .int x7_1), (0, .ref (ad 11 0)), (1, .int x1), (2, .int x2), (3, .int x3), (6, .int x6)]) 89 dX12_meaning_89 (by decide) rfl ?_
            refine j_iinc (v := x6 + 1) (lv2 := [(6, .int (x6 + 1)), (5, .int x5_3), (4, .int x4_2), (7, .int x7_1), (0, .ref (ad 11 0)), (1, .int x1), (2, .int x2), (3, .int x3)]) 91 7 dX12_meaning_91 rfl rfl (by decide) rfl ?_
            refine j_goto 94 9 dX12_meaning_94 (by decide) ?_
            refine j_sub [4, 5, 6, 7, 2, 1, 0] rfl ?_
            exact ih _ x4_2 x5_3 (x6 + 1)
set_option maxRecDepth 100000 in
set_option maxHeartbeats 4000000 in
theorem tX12_meaning_L100 {ad : Nat → Nat → Nat} (X : Ctx) (F : Nat) (S : St) (x1 : Int32) (x2 : Int32) (x3 : Int32)   : ∀ (n : Nat) (γ : Nat → Nat) (x4 : Int32) (x5 : Int32) (x6 : Int32), JJ X ad γ (RQm X ad 0 0 (outpi S)) (fcm (outpi S)) 0 0 cX12_meaning 8 RX12 wsX12_meaning (some .int) (fX12_meaning_L100 F S x1 x2 x3 n x4 x5 x6) S 100 [(0, .ref (ad 11 0)), (1, .int x1), (2, .int x2), (3, .int x3), (4, .int x4), (5, .int x5), (6, .int x6)] [] := by
  intro n
  induction n with
  | zero => intro _ _ _ _; exact j_none
  | succ n ih =>
    intro γ x4 x5 x6
    rw [show fX12_meaning_L100 F S x1 x2 x3 (n + 1) x4 x5 x6 = fX12_meaning_b100 F S x1 x2 x3 (fX12_meaning_L100 F S x1 x2 x3 n) x4 x5 x6 from rfl]
    unfold fX12_meaning_b100
    refine j_iload 100 6 dX12_meaning_100 rfl ?_
    refine j_aload_n 102 0 dX12_meaning_102 rfl rfl ?_
    refine j_getr (c2 := 55) (n2 := 0) 103 2 nX12_meaning_X12 rfl (by decide) (prs_mem (by decide) (by decide)) (by decide) (by decide) wX12_meaning_f16 (Or.inl rfl) rfl rfl rfl dX12_meaning_103 ?_
    refine j_iload_n 106 1 dX12_meaning_106 rfl rfl ?_
    refine j_iald (c := 55) (n := 0) (L := 3) 107 (prs_mem (by decide) (by decide)) (by decide) rfl rfl rfl dX12_meaning_107 ?_
    refine j_icmp_ge 108 204 dX12_meaning_108 (by decide) (fun _ => ?_) (fun _ => ?_)
    · refine j_iload 204 5 dX12_meaning_204 rfl ?_
      exact j_iret 206 rfl dX12_meaning_206
    · refine j_sipush (v := 240) 111 dX12_meaning_111 (by decide) ?_
      refine j_iload_n 114 1 dX12_meaning_114 rfl rfl ?_
      refine j_imul 115 dX12_meaning_115 ?_
      refine j_bipush (v := 6) 116 dX12_meaning_116 (by decide) ?_
      refine j_iload 118 6 dX12_meaning_118 rfl ?_
      refine j_imul 120 dX12_meaning_120 ?_
      refine j_iadd 121 dX12_meaning_121 ?_
      refine j_bndi (fun x7_6 => ?_)
      refine j_istore (lv2 := [(7, .int x7_6), (0, .ref (ad 11 0)), (1, .int x1), (2, .int x2), (3, .int x3), (4, .int x4), (5, .int x5), (6, .int x6)]) 122 dX12_meaning_122 (by decide) rfl ?_
      refine j_aload_n 124 1 dX12_meaning_124 rfl rfl ?_
      refine j_getr (c2 := 56) (n2 := 0) 125 3 nX12_meaning_X12 rfl (by decide) (prs_mem (by decide) (by decide)) (by decide) (by decide) wX12_meaning_f19 (Or.inl rfl) rfl rfl rfl dX12_meaning_125 ?_
      refine j_iload 128 0 dX12_meaning_128 rfl ?_
      refine j_iald (c := 56) (n := 0) (L := 720) 130 (prs_mem (by decide) (by decide)) (by decide) rfl rfl rfl dX12_meaning_130 ?_
      refine j_bipush (v := 119) 131 dX12_meaning_131 (by decide) ?_
      refine j_icmp_ne 133 198 dX12_meaning_133 (by decide) (fun _ => ?_) (fun _ => ?_)
      · refine j_iinc (v := x6 + 1) (lv2 := [(6, .int (x6 + 1)), (7, .int x7_6), (0, .ref (ad 11 0)), (1, .int x1), (2, .int x2), (3, .int x3), (4, .int x4), (5, .int x5)]) 198 7 dX12_meaning_198 rfl rfl (by decide) rfl ?_
        refine j_goto 201 100 dX12_meaning_201 (by decide) ?_
        refine j_sub [2, 3, 4, 5, 6, 7, 0] rfl ?_
        exact ih _ x4 x5 (x6 + 1)
      · refine j_aload_n 136 1 dX12_meaning_136 rfl rfl ?_
        refine j_getr (c2 := 56) (n2 := 0) 137 3 nX12_meaning_X12 rfl (by decide) (prs_mem (by decide) (by decide)) (by decide) (by decide) wX12_meaning_f19 (Or.inl rfl) rfl rfl rfl dX12_meaning_137 ?_
        refine j_iload 140 0 dX12_meaning_140 rfl ?_
        refine j_iconst (v := 1) 142 dX12_meaning_142 (by decide) ?_
        refine j_iadd 143 dX12_meaning_143 ?_
        refine j_iald (c := 56) (n := 0) (L := 720) 144 (prs_mem (by decide) (by decide)) (by decide) rfl rfl rfl dX12_meaning_144 ?_
        refine j_iload_n 145 3 dX12_meaning_145 rfl rfl ?_
        refine j_icmp_ne 146 198 dX12_meaning_146 (by decide) (fun _ => ?_) (fun _ => ?_)
        · refine j_iinc (v := x6 + 1) (lv2 := [(6, .int (x6 + 1)), (7, .int x7_6), (0, .ref (ad 11 0)), (1, .int x1), (2, .int x2), (3, .int x3), (4, .int x4), (5, .int x5)]) 198 7 dX12_meaning_198 rfl rfl (by decide) rfl ?_
          refine j_goto 201 100 dX12_meaning_201 (by decide) ?_
          refine j_sub [2, 3, 4, 5, 6, 7, 0] rfl ?_
          exact ih _ x4 x5 (x6 + 1)
        · refine j_aload_n 149 1 dX12_meaning_149 rfl rfl ?_
          refine j_getr (c2 := 56) (n2 := 0) 150 3 nX12_meaning_X12 rfl (by decide) (prs_mem (by decide) (by decide)) (by decide) (by decide) wX12_meaning_f19 (Or.inl rfl) rfl rfl rfl dX12_meaning_150 ?_
          refine j_iload 153 0 dX12_meaning_153 rfl ?_
          refine j_iconst (v := 2) 155 dX12_meaning_155 (by decide) ?_
          refine j_iadd 156 dX12_meaning_156 ?_
          refine j_iald (c := 56) (n := 0) (L := 720) 157 (prs_mem (by decide) (by decide)) (by decide) rfl rfl rfl dX12_meaning_157 ?_
          refine j_iload_n 158 4 dX12_meaning_158 rfl rfl ?_
          refine j_icmp_gt 159 198 dX12_meaning_159 (by decide) (fun _ => ?_) (fun _ => ?_)
          · refine j_iinc (v := x6 + 1) (lv2 := [(6, .int (x6 + 1)), (7, .int x7_6), (0, .ref (ad 11 0)), (1, .int x1), (2, .int x2), (3, .int x3), (4, .int x4), (5, .int x5)]) 198 7 dX12_meaning_198 rfl rfl (by decide) rfl ?_
            refine j_goto 201 100 dX12_meaning_201 (by decide) ?_
            refine j_sub [2, 3, 4, 5, 6, 7, 0] rfl ?_
            exact ih _ x4 x5 (x6 + 1)
          · refine j_aload_n 162 1 dX12_meaning_162 rfl rfl ?_
            refine j_getr (c2 := 56) (n2 := 0) 163 3 nX12_meaning_X12 rfl (by decide) (prs_mem (by decide) (by decide)) (by decide) (by decide) wX12_meaning_f19 (Or.inl rfl) rfl rfl rfl dX12_meaning_163 ?_
            refine j_iload 166 0 dX12_meaning_166 rfl ?_
            refine j_iconst (v := 2) 168 dX12_meaning_168 (by decide) ?_
            refine j_iadd 169 dX12_meaning_169 ?_
            refine j_iald (c := 56) (n := 0) (L := 720) 170 (prs_mem (by decide) (by decide)) (by decide) rfl rfl rfl dX12_meaning_170 ?_
            refine j_iload 171 5 dX12_meaning_171 rfl ?_
            refine j_icmp_lt 173 198 dX12_meaning_173 (by decide) (fun _ => ?_) (fun _ => ?_)
            · refine j_iinc (v := x6 + 1) (lv2 := [(6, .int (x6 + 1)), (7, .int x7_6), (0, .ref (ad 11 0)), (1, .int x1), (2, .int x2), (3, .int x3), (4, .int x4), (5, .int x5)]) 198 7 dX12_meaning_198 rfl rfl (by decide) rfl ?_
              refine j_goto 201 100 dX12_meaning_201 (by decide) ?_
              refine j_sub [2, 3, 4, 5, 6, 7, 0] rfl ?_
              exact ih _ x4 x5 (x6 + 1)
            · refine j_aload_n 176 1 dX12_meaning_176 rfl rfl ?_
              refine j_getr (c2 := 56) (n2 := 0) 177 3 nX12_meaning_X12 rfl (by decide) (prs_mem (by decide) (by decide)) (by decide) (by decide) wX12_meaning_f19 (Or.inl rfl) rfl rfl rfl dX12_meaning_177 ?_
              refine j_iload 180 0 dX12_meaning_180 rfl ?_
              refine j_iconst (v := 2) 182 dX12_meaning_182 (by decide) ?_
              refine j_iadd 183 dX12_meaning_183 ?_
              refine j_iald (c := 56) (n := 0) (L := 720) 184 (prs_mem (by decide) (by decide)) (by decide) rfl rfl rfl dX12_meaning_184 ?_
              refine j_bndi (fun x4_7 => ?_)
              refine j_istore (lv2 := [(4, .int x4_7), (7, .int x7_6), (0, .ref (ad 11 0)), (1, .int x1), (2, .int x2), (3, .int x3), (5, .int x5), (6, .int x6)]) 185 dX12_meaning_185 (by decide) rfl ?_
              refine j_aload_n 187 2 dX12_meaning_187 rfl rfl ?_
              refine j_getr (c2 := 56) (n2 := 0) 188 3 nX12_meaning_X12 rfl (by decide) (prs_mem (by decide) (by decide)) (by decide) (by decide) wX12_meaning_f19 (Or.inl rfl) rfl rfl rfl dX12_meaning_188 ?_
              refine j_iload 191 1 dX12_meaning_191 rfl ?_
              refine j_iconst (v := 3) 193 dX12_meaning_193 (by decide) ?_
              refine j_iadd 194 dX12_meaning_194 ?_
              refine j_iald (c := 56) (n := 0) (L := 720) 195 (prs_mem (by decide) (by decide)) (by decide) rfl rfl rfl dX12_meaning_195 ?_
              refine j_bndi (fun x5_8 => ?_)
              refine j_istore (lv2 := [(5, .int x5_8), (4, .int x4_7), (7, .int x7_6), (0, .ref (ad 11 0)), (1, .int x1), (2, .int x2), (3, .int x3), (6, .int x6)]) 196 dX12_meaning_196 (by decide) rfl ?_
              refine j_iinc (v := x6 + 1) (lv2 := [(6, .int (x6 + 1)), (5, .int x5_8), (4, .int x4_7), (7, .int x7_6), (0, .ref (ad 11 0)), (1, .int x1), (2, .int x2), (3, .int x3)]) 198 7 dX12_meaning_198 rfl rfl (by decide) rfl ?_
              refine j_goto 201 100 dX12_meaning_201 (by decide) ?_
              refine j_sub [4, 5, 6, 7, 2, 1, 0] rfl ?_
              exact ih _ x4_7 x5_8 (x6 + 1)
set_option maxRecDepth 100000 in
set_option maxHeartbeats 4000000 in
theorem tX12_meaning {ad : Nat → Nat → Nat} (X : Ctx) (γ : Nat → Nat) (F : Nat) (S : St) (p1 : Int32) (p2 : Int32) (p3 : Int32) : JJ X ad γ (RQm X ad 0 0 (outpi S)) (fcm (outpi S)) 0 0 cX12_meaning 8 RX12 wsX12_meaning (some .int) (fX12_meaning F S p1 p2 p3) S 0 [(0, .ref (ad 11 0)), (1, .int p1), (2, .int p2), (3, .int p3)] [] := by
  unfold fX12_meaning
  refine j_iconst (v := (-1)) 0 dX12_meaning_0 (by decide) ?_
  refine j_istore (lv2 := [(4, .int (-1)), (0, .ref (ad 11 0)), (1, .int p1), (2, .int p2), (3, .int p3)]) 1 dX12_meaning_1 (by decide) rfl ?_
  refine j_iconst (v := 0) 3 dX12_meaning_3 (by decide) ?_
  refine j_istore (lv2 := [(5, .int 0), (4, .int (-1)), (0, .ref (ad 11 0)), (1, .int p1), (2, .int p2), (3, .int p3)]) 4 dX12_meaning_4 (by decide) rfl ?_
  refine j_iconst (v := 0) 6 dX12_meaning_6 (by decide) ?_
  refine j_istore (lv2 := [(6, .int 0), (5, .int 0), (4, .int (-1)), (0, .ref (ad 11 0)), (1, .int p1), (2, .int p2), (3, .int p3)]) 7 dX12_meaning_7 (by decide) rfl ?_
  refine j_sub [3, 4, 5, 6, 2, 1, 0] rfl ?_
  refine tX12_meaning_L9 X F S p1 p2 p3 _ (fun γ x4_4 x5_5 => ?_) F _ (-1) 0 0
  refine j_iconst (v := 0) 97 dX12_meaning_97 (by decide) ?_
  refine j_istore (lv2 := [(6, .int 0), (0, .ref (ad 11 0)), (1, .int p1), (2, .int p2), (3, .int p3), (4, .int x4_4), (5, .int x5_5)]) 98 dX12_meaning_98 (by decide) rfl ?_
  refine j_sub [1, 2, 3, 4, 5, 6, 0] rfl ?_
  exact tX12_meaning_L100 X F S p1 p2 p3 F _ x4_4 x5_5 0
set_option maxRecDepth 100000 in
set_option maxHeartbeats 4000000 in
theorem kX12_meaning {ad : Nat → Nat → Nat} (F : Nat) (S : St) (p1 : Int32) (p2 : Int32) (p3 : Int32) : ∀ b, fX12_meaning F S p1 p2 p3 = some b → ∀ l dC dI cy, CT l dC dI cy ad yX12_meaning wsX12_meaning 0 0 [.ref (ad 11 0), .int p1, .int p2, .int p3] S (some (.int b)) S :=
  fun b hb l dC dI cy => ct_of (l := l) (dC := dC) (dI := dI) (cy := cy) (outpi S) (by decide) rfl (Nat.le_of_ble_eq_true rfl) rfl (fun X γ => tX12_meaning X γ F S p1 p2 p3) b hb
-- X12_means
theorem wX12_means_c105 : Cond.constantLong RX12 105 (7) ∈ wsX12_means := by decide +kernel
set_option maxRecDepth 100000 in
set_option maxHeartbeats 4000000 in
theorem tX12_means {ad : Nat → Nat → Nat} (X : Ctx) (γ : Nat → Nat) (F : Nat) (S : St) (p1 : Int32) (p2 : Int32) (p3 : Int32) : JJ X ad γ (RQm X ad 2 45 (outpi S)) (fcm (outpi S)) 2 45 cX12_means 4 RX12 wsX12_means (some .int) (fX12_means F S p1 p2 p3) S 0 [(0, .ref (ad 11 0)), (1, .int p1), (2, .int p2), (3, .int p3)] [] := by
  unfold fX12_means
  refine j_iload_n 0 1 dX12_means_0 rfl rfl ?_
  refine j_callS_pi 1  [.int p1] [] gX12_means_X12_isTongue rfl eX12_isTongue ⟨Nat.le_of_ble_eq_true rfl, Nat.le_of_ble_eq_true rfl⟩ rfl rfl (Nat.le_of_ble_eq_true rfl) dX12_means_1 (kX12_isTongue S p1) (fun b_1 γ => ?_)
  refine j_if_eq 4 36 dX12_means_4 (by decide) (fun _ => ?_) (fun _ => ?_)
  · refine j_iconst (v := (-1)) 36 dX12_means_36 (by decide) ?_
    exact j_iret 37 rfl dX12_means_37
  · refine j_iload_n 7 2 dX12_means_7 rfl rfl ?_
    refine j_i2l 8 dX12_means_8 ?_
    refine j_lconst (v := 0) 9 dX12_means_9 (by decide) ?_
    refine j_ldc2 (v := 7) 10 dX12_means_10 wX12_means_c105 ?_
    refine j_callS_pi 13  [.long p2.toInt64, .long 0, .long 7] [] gX12_means_X12_in rfl eX12_in ⟨Nat.le_of_ble_eq_true rfl, Nat.le_of_ble_eq_true rfl⟩ rfl rfl (Nat.le_of_ble_eq_true rfl) dX12_means_13 (kX12_in S p2.toInt64 0 7) (fun b_2 γ => ?_)
    refine j_if_eq 16 36 dX12_means_16 (by decide) (fun _ => ?_) (fun _ => ?_)
    · refine j_iconst (v := (-1)) 36 dX12_means_36 (by decide) ?_
      exact j_iret 37 rfl dX12_means_37
    · refine j_iload_n 19 3 dX12_means_19 rfl rfl ?_
      refine j_callS_pi 20  [.int p3] [] gX12_means_X12_isYear rfl eX12_isYear ⟨Nat.le_of_ble_eq_true rfl, Nat.le_of_ble_eq_true rfl⟩ rfl rfl (Nat.le_of_ble_eq_true rfl) dX12_means_20 (kX12_isYear S p3) (fun b_3 γ => ?_)
      refine j_if_eq 23 36 dX12_means_23 (by decide) (fun _ => ?_) (fun _ => ?_)
      · refine j_iconst (v := (-1)) 36 dX12_means_36 (by decide) ?_
        exact j_iret 37 rfl dX12_means_37
      · refine j_aload_n 26 0 dX12_means_26 rfl rfl ?_
        refine j_iload_n 27 1 dX12_means_27 rfl rfl ?_
        refine j_iload_n 28 2 dX12_means_28 rfl rfl ?_
        refine j_iload_n 29 3 dX12_means_29 rfl rfl ?_
        refine j_callV_pi 30 rfl (by decide) (prs_mem (by decide) (by decide))  [.int p1, .int p2, .int p3] [] gX12_means_X12_meaning rfl eX12_meaning ⟨Nat.le_of_ble_eq_true rfl, Nat.le_of_ble_eq_true rfl⟩ rfl rfl (Nat.le_of_ble_eq_true rfl) dX12_means_30 (kX12_meaning F S p1 p2 p3) (fun b_4 γ => ?_)
        refine j_goto 33 37 dX12_means_33 (by decide) ?_
        exact j_iret 37 rfl dX12_means_37
set_option maxRecDepth 100000 in
set_option maxHeartbeats 4000000 in
theorem kX12_means {ad : Nat → Nat → Nat} (F : Nat) (S : St) (p1 : Int32) (p2 : Int32) (p3 : Int32) : ∀ b, fX12_means F S p1 p2 p3 = some b → ∀ l dC dI cy, CT l dC dI cy ad yX12_means wsX12_means 2 45 [.ref (ad 11 0), .int p1, .int p2, .int p3] S (some (.int b)) S :=
  fun b hb l dC dI cy => ct_of (l := l) (dC := dC) (dI := dI) (cy := cy) (outpi S) (by decide) rfl (Nat.le_of_ble_eq_true rfl) rfl (fun X γ => tX12_means X γ F S p1 p2 p3) b hb
-- X12_layWords
theorem nX12_layWords_X12 : ∀ w ∈ u_ws RX12 TX12 40, w ∈ wsX12_layWords := by decide +kernel
theorem wX12_layWords_f73 : Cond.fieldLink RX12 73 "TwoTonguesModel" "words" "[I" ∈ wsX12_layWords := by decide +kernel
set_option maxRecDepth 100000 in
set_option maxHeartbeats 4000000 in
theorem tX12_layWords_L9 {ad : Nat → Nat → Nat} (X : Ctx) (F : Nat) (x1 : Int32) (x2 : Int32) (k39 : St → Option St)  (hk39 : ∀ (γ : Nat → Nat) (S : St), JJ X ad γ (RQm X ad 1 27 outev) (fcm outev) 1 27 cX12_layWords 4 RX12 wsX12_layWords none (k39 S) S 39 [(0, .ref (ad 11 0)), (1, .int x1), (2, .int x2)] []) : ∀ (n : Nat) (γ : Nat → Nat) (x3 : Int32) (S : St), JJ X ad γ (RQm X ad 1 27 outev) (fcm outev) 1 27 cX12_layWords 4 RX12 wsX12_layWords none (fX12_layWords_L9 F x1 x2 k39 n x3 S) S 9 [(0, .ref (ad 11 0)), (1, .int x1), (2, .int x2), (3, .int x3)] [] := by
  intro n
  induction n with
  | zero => intro _ _ _; exact j_none
  | succ n ih =>
    intro γ x3 S
    rw [show fX12_layWords_L9 F x1 x2 k39 (n + 1) x3 S = fX12_layWords_b9 F x1 x2 k39 (fX12_layWords_L9 F x1 x2 k39 n) x3 S from rfl]
    unfold fX12_layWords_b9
    refine j_iload_n 9 3 dX12_layWords_9 rfl rfl ?_
    refine j_bipush (v := 8) 10 dX12_layWords_10 (by decide) ?_
    refine j_icmp_ge 12 39 dX12_layWords_12 (by decide) (fun _ => ?_) (fun _ => ?_)
    · refine j_sub [0, 1, 2] rfl ?_
      exact hk39 _ S
    · refine j_aload_n 15 0 dX12_layWords_15 rfl rfl ?_
      refine j_getr (c2 := 74) (n2 := 0) 16 30 nX12_layWords_X12 rfl (by decide) (prs_mem (by decide) (by decide)) (by decide) (by decide) wX12_layWords_f73 (Or.inl rfl) rfl rfl rfl dX12_layWords_16 ?_
      refine j_bipush (v := 8) 19 dX12_layWords_19 (by decide) ?_
      refine j_iload_n 21 2 dX12_layWords_21 rfl rfl ?_
      refine j_imul 22 dX12_layWords_22 ?_
      refine j_iload_n 23 3 dX12_layWords_23 rfl rfl ?_
      refine j_iadd 24 dX12_layWords_24 ?_
      refine j_aload_n 25 0 dX12_layWords_25 rfl rfl ?_
      refine j_iload_n 26 2 dX12_layWords_26 rfl rfl ?_
      refine j_iload_n 27 3 dX12_layWords_27 rfl rfl ?_
      refine j_iload_n 28 1 dX12_layWords_28 rfl rfl ?_
      refine j_callV_pi 29 rfl (by decide) (prs_mem (by decide) (by decide))  [.int x2, .int x3, .int x1] [.int (((8 : Int32) * x2) + x3), .ref (ad 74 0)] gX12_layWords_X12_meaning rfl eX12_meaning ⟨Nat.le_of_ble_eq_true rfl, Nat.le_of_ble_eq_true rfl⟩ rfl rfl (Nat.le_of_ble_eq_true rfl) dX12_layWords_29 (kX12_meaning F S x2 x3 x1) (fun b_1 γ => ?_)
      refine j_iast (c := 74) (n := 0) (L := 16) 32 (prs_mem (by decide) (by decide)) (by decide) rfl rfl rfl dX12_layWords_32 (j_bs (fun S_2 => ?_))
      refine j_iinc (v := x3 + 1) (lv2 := [(3, .int (x3 + 1)), (0, .ref (ad 11 0)), (1, .int x1), (2, .int x2)]) 33 3 dX12_layWords_33 rfl rfl (by decide) rfl ?_
      refine j_goto 36 9 dX12_layWords_36 (by decide) ?_
      refine j_sub [1, 2, 3, 0] rfl ?_
      exact ih _ (x3 + 1) S_2
set_option maxRecDepth 100000 in
set_option maxHeartbeats 4000000 in
theorem tX12_layWords_L2 {ad : Nat → Nat → Nat} (X : Ctx) (F : Nat) (x1 : Int32)   : ∀ (n : Nat) (γ : Nat → Nat) (x2 : Int32) (S : St), JJ X ad γ (RQm X ad 1 27 outev) (fcm outev) 1 27 cX12_layWords 4 RX12 wsX12_layWords none (fX12_layWords_L2 F x1 n x2 S) S 2 [(0, .ref (ad 11 0)), (1, .int x1), (2, .int x2)] [] := by
  intro n
  induction n with
  | zero => intro _ _ _; exact j_none
  | succ n ih =>
    intro γ x2 S
    rw [show fX12_layWords_L2 F x1 (n + 1) x2 S = fX12_layWords_b2 F x1 (fX12_layWords_L2 F x1 n) x2 S from rfl]
    unfold fX12_layWords_b2
    refine j_iload_n 2 2 dX12_layWords_2 rfl rfl ?_
    refine j_iconst (v := 2) 3 dX12_layWords_3 (by decide) ?_
    refine j_icmp_ge 4 45 dX12_layWords_4 (by decide) (fun _ => ?_) (fun _ => ?_)
    · exact j_vret 45 rfl dX12_layWords_45
    · refine j_iconst (v := 0) 7 dX12_layWords_7 (by decide) ?_
      refine j_istore_n (lv2 := [(3, .int 0), (0, .ref (ad 11 0)), (1, .int x1), (2, .int x2)]) 8 dX12_layWords_8 rfl (by decide) rfl ?_
      refine j_sub [1, 2, 3, 0] rfl ?_
      refine tX12_layWords_L9 X F x1 x2 _ (fun γ S_3 => ?_) F _ 0 S
      refine j_iinc (v := x2 + 1) (lv2 := [(2, .int (x2 + 1)), (0, .ref (ad 11 0)), (1, .int x1)]) 39 2 dX12_layWords_39 rfl rfl (by decide) rfl ?_
      refine j_goto 42 2 dX12_layWords_42 (by decide) ?_
      refine j_sub [1, 2, 0] rfl ?_
      exact ih _ (x2 + 1) S_3
set_option maxRecDepth 100000 in
set_option maxHeartbeats 4000000 in
theorem tX12_layWords {ad : Nat → Nat → Nat} (X : Ctx) (γ : Nat → Nat) (F : Nat) (S : St) (p1 : Int32) : JJ X ad γ (RQm X ad 1 27 outev) (fcm outev) 1 27 cX12_layWords 4 RX12 wsX12_layWords none (fX12_layWords F S p1) S 0 [(0, .ref (ad 11 0)), (1, .int p1)] [] := by
  unfold fX12_layWords
  refine j_iconst (v := 0) 0 dX12_layWords_0 (by decide) ?_
  refine j_istore_n (lv2 := [(2, .int 0), (0, .ref (ad 11 0)), (1, .int p1)]) 1 dX12_layWords_1 rfl (by decide) rfl ?_
  refine j_sub [1, 2, 0] rfl ?_
  exact tX12_layWords_L2 X F p1 F _ 0 S
set_option maxRecDepth 100000 in
set_option maxHeartbeats 4000000 in
theorem kX12_layWords {ad : Nat → Nat → Nat} (F : Nat) (S : St) (p1 : Int32) : ∀ b, fX12_layWords F S p1 = some b → ∀ l dC dI cy, CT l dC dI cy ad yX12_layWords wsX12_layWords 1 27 [.ref (ad 11 0), .int p1] S (none) b :=
  fun b hb l dC dI cy => ct_of (l := l) (dC := dC) (dI := dI) (cy := cy) outev (by decide) rfl (Nat.le_of_ble_eq_true rfl) rfl (fun X γ => tX12_layWords X γ F S p1) b hb
-- X12_whyOf
theorem nX12_whyOf_X12 : ∀ w ∈ u_ws RX12 TX12 40, w ∈ wsX12_whyOf := by decide +kernel
theorem wX12_whyOf_f16 : Cond.fieldLink RX12 16 "TwoTonguesModel" "itemMany" "[I" ∈ wsX12_whyOf := by decide +kernel
theorem wX12_whyOf_f19 : Cond.fieldLink RX12 19 "TwoTonguesModel" "items" "[I" ∈ wsX12_whyOf := by decide +kernel
theorem wX12_whyOf_f73 : Cond.fieldLink RX12 73 "TwoTonguesModel" "words" "[I" ∈ wsX12_whyOf := by decide +kernel
set_option maxRecDepth 100000 in
set_option maxHeartbeats 4000000 in
theorem tX12_whyOf_j92 {ad : Nat → Nat → Nat} (X : Ctx) (γ : Nat → Nat) (F : Nat) (S : St) (x1 : Int32) (x2 : Int32) (x3 : Int32) (x4 : Int32) (x5 : Int32) (x6 : Int32) (x7 : Int32) (s0 : Int32) (rec : Int32 → Int32 → Option Int32)  (ih : ∀ (γ : Nat → Nat) (x5 : Int32) (x6 : Int32), JJ X ad γ (RQm X ad 1 25 (outpi S)) (fcm (outpi S)) 1 25 cX12_whyOf 9 RX12 wsX12_whyOf (some .int) (rec x5 x6) S 7 [(0, .ref (ad 11 0)), (1, .int x1), (2, .int x2), (3, .int x3), (4, .int x4), (5, .int x5), (6, .int x6)] []) : JJ X ad γ (RQm X ad 1 25 (outpi S)) (fcm (outpi S)) 1 25 cX12_whyOf 9 RX12 wsX12_whyOf (some .int) (fX12_whyOf_j92 F S x1 x2 x3 x4 x5 x6 x7 s0 rec) S 92 [(0, .ref (ad 11 0)), (1, .int x1), (2, .int x2), (3, .int x3), (4, .int x4), (5, .int x5), (6, .int x6), (7, .int x7)] [.int s0] := by
  unfold fX12_whyOf_j92
  refine j_istore (lv2 := [(8, .int s0), (0, .ref (ad 11 0)), (1, .int x1), (2, .int x2), (3, .int x3), (4, .int x4), (5, .int x5), (6, .int x6), (7, .int x7)]) 92 dX12_whyOf_92 (by decide) rfl ?_
  refine j_iload 94 0 dX12_whyOf_94 rfl ?_
  refine j_if_eq 96 150 dX12_whyOf_96 (by decide) (fun _ => ?_) (fun _ => ?_)
  · refine j_iload 150 6 dX12_whyOf_150 rfl ?_
    refine j_istore (lv2 := [(5, .int x5), (8, .int s0), (0, .ref (ad 11 0)), (1, .int x1), (2, .int x2), (3, .int x3), (4, .int x4), (6, .int x6), (7, .int x7)]) 152 dX12_whyOf_152 (by decide) rfl ?_
    refine j_iinc (v := x6 + 1) (lv2 := [(6, .int (x6 + 1)), (5, .int x5), (8, .int s0), (0, .ref (ad 11 0)), (1, .int x1), (2, .int x2), (3, .int x3), (4, .int x4), (7, .int x7)]) 154 7 dX12_whyOf_154 rfl rfl (by decide) rfl ?_
    refine j_goto 157 7 dX12_whyOf_157 (by decide) ?_
    refine j_sub [3, 4, 5, 6, 7, 1, 0] rfl ?_
    exact ih _ x5 (x6 + 1)
  · refine j_aload_n 99 1 dX12_whyOf_99 rfl rfl ?_
    refine j_getr (c2 := 74) (n2 := 0) 100 30 nX12_whyOf_X12 rfl (by decide) (prs_mem (by decide) (by decide)) (by decide) (by decide) wX12_whyOf_f73 (Or.inl rfl) rfl rfl rfl dX12_whyOf_100 ?_
    refine j_bipush (v := 8) 103 dX12_whyOf_103 (by decide) ?_
    refine j_iload_n 105 2 dX12_whyOf_105 rfl rfl ?_
    refine j_imul 106 dX12_whyOf_106 ?_
    refine j_aload_n 107 1 dX12_whyOf_107 rfl rfl ?_
    refine j_getr (c2 := 56) (n2 := 0) 108 3 nX12_whyOf_X12 rfl (by decide) (prs_mem (by decide) (by decide)) (by decide) (by decide) wX12_whyOf_f19 (Or.inl rfl) rfl rfl rfl dX12_whyOf_108 ?_
    refine j_iload 111 8 dX12_whyOf_111 rfl ?_
    refine j_iconst (v := 1) 113 dX12_whyOf_113 (by decide) ?_
    refine j_iadd 114 dX12_whyOf_114 ?_
    refine j_iald (c := 56) (n := 0) (L := 720) 115 (prs_mem (by decide) (by decide)) (by decide) rfl rfl rfl dX12_whyOf_115 ?_
    refine j_iadd 116 dX12_whyOf_116 ?_
    refine j_iald (c := 74) (n := 0) (L := 16) 117 (prs_mem (by decide) (by decide)) (by decide) rfl rfl rfl dX12_whyOf_117 ?_
    refine j_iload_n 118 3 dX12_whyOf_118 rfl rfl ?_
    refine j_bipush (v := 6) 119 dX12_whyOf_119 (by decide) ?_
    refine j_idiv 121 dX12_whyOf_121 ?_
    refine j_callS_pi 122  [.int (gA S 74 0 (((8 : Int32) * x1) + (gA S 56 0 (x7 + 1).toNatClampNeg)).toNatClampNeg), .int (x2 / 6)] [] gX12_whyOf_X12_has rfl eX12_has ⟨Nat.le_of_ble_eq_true rfl, Nat.le_of_ble_eq_true rfl⟩ rfl rfl (Nat.le_of_ble_eq_true rfl) dX12_whyOf_122 (kX12_has S (gA S 74 0 (((8 : Int32) * x1) + (gA S 56 0 (x7 + 1).toNatClampNeg)).toNatClampNeg) (x2 / 6)) (fun b_2 γ => ?_)
    refine j_if_eq 125 150 dX12_whyOf_125 (by decide) (fun _ => ?_) (fun _ => ?_)
    · refine j_iload 150 6 dX12_whyOf_150 rfl ?_
      refine j_istore (lv2 := [(5, .int x5), (8, .int s0), (0, .ref (ad 11 0)), (1, .int x1), (2, .int x2), (3, .int x3), (4, .int x4), (6, .int x6), (7, .int x7)]) 152 dX12_whyOf_152 (by decide) rfl ?_
      refine j_iinc (v := x6 + 1) (lv2 := [(6, .int (x6 + 1)), (5, .int x5), (8, .int s0), (0, .ref (ad 11 0)), (1, .int x1), (2, .int x2), (3, .int x3), (4, .int x4), (7, .int x7)]) 154 7 dX12_whyOf_154 rfl rfl (by decide) rfl ?_
      refine j_goto 157 7 dX12_whyOf_157 (by decide) ?_
      refine j_sub [3, 4, 5, 6, 7, 1, 0] rfl ?_
      exact ih _ x5 (x6 + 1)
    · refine j_aload_n 128 1 dX12_whyOf_128 rfl rfl ?_
      refine j_getr (c2 := 56) (n2 := 0) 129 3 nX12_whyOf_X12 rfl (by decide) (prs_mem (by decide) (by decide)) (by decide) (by decide) wX12_whyOf_f19 (Or.inl rfl) rfl rfl rfl dX12_whyOf_129 ?_
      refine j_iload 132 8 dX12_whyOf_132 rfl ?_
      refine j_iconst (v := 5) 134 dX12_whyOf_134 (by decide) ?_
      refine j_iadd 135 dX12_whyOf_135 ?_
      refine j_iald (c := 56) (n := 0) (L := 720) 136 (prs_mem (by decide) (by decide)) (by decide) rfl rfl rfl dX12_whyOf_136 ?_
      refine j_iload 137 5 dX12_whyOf_137 rfl ?_
      refine j_iconst (v := (-1)) 139 dX12_whyOf_139 (by decide) ?_
      refine j_ixor 140 dX12_whyOf_140 ?_
      refine j_iand 141 dX12_whyOf_141 ?_
      refine j_if_ne 142 150 dX12_whyOf_142 (by decide) (fun _ => ?_) (fun _ => ?_)
      · refine j_iload 150 6 dX12_whyOf_150 rfl ?_
        refine j_istore (lv2 := [(5, .int x5), (8, .int s0), (0, .ref (ad 11 0)), (1, .int x1), (2, .int x2), (3, .int x3), (4, .int x4), (6, .int x6), (7, .int x7)]) 152 dX12_whyOf_152 (by decide) rfl ?_
        refine j_iinc (v := x6 + 1) (lv2 := [(6, .int (x6 + 1)), (5, .int x5), (8, .int s0), (0, .ref (ad 11 0)), (1, .int x1), (2, .int x2), (3, .int x3), (4, .int x4), (7, .int x7)]) 154 7 dX12_whyOf_154 rfl rfl (by decide) rfl ?_
        refine j_goto 157 7 dX12_whyOf_157 (by decide) ?_
        refine j_sub [3, 4, 5, 6, 7, 1, 0] rfl ?_
        exact ih _ x5 (x6 + 1)
      · refine j_iload 145 7 dX12_whyOf_145 rfl ?_
        refine j_goto 147 152 dX12_whyOf_147 (by decide) ?_
        refine j_istore (lv2 := [(5, .int x6), (8, .int s0), (0, .ref (ad 11 0)), (1, .int x1), (2, .int x2), (3, .int x3), (4, .int x4), (6, .int x6), (7, .int x7)]) 152 dX12_whyOf_152 (by decide) rfl ?_
        refine j_iinc (v := x6 + 1) (lv2 := [(6, .int (x6 + 1)), (5, .int x6), (8, .int s0), (0, .ref (ad 11 0)), (1, .int x1), (2, .int x2), (3, .int x3), (4, .int x4), (7, .int x7)]) 154 7 dX12_whyOf_154 rfl rfl (by decide) rfl ?_
        refine j_goto 157 7 dX12_whyOf_157 (by decide) ?_
        refine j_sub [3, 4, 5, 6, 7, 1, 0] rfl ?_
        exact ih _ x6 (x6 + 1)
set_option maxRecDepth 100000 in
set_option maxHeartbeats 4000000 in
theorem tX12_whyOf_j91 {ad : Nat → Nat → Nat} (X : Ctx) (γ : Nat → Nat) (F : Nat) (S : St) (x1 : Int32) (x2 : Int32) (x3 : Int32) (x4 : Int32) (x5 : Int32) (x6 : Int32) (x7 : Int32) (rec : Int32 → Int32 → Option Int32)  (ih : ∀ (γ : Nat → Nat) (x5 : Int32) (x6 : Int32), JJ X ad γ (RQm X ad 1 25 (outpi S)) (fcm (outpi S)) 1 25 cX12_whyOf 9 RX12 wsX12_whyOf (some .int) (rec x5 x6) S 7 [(0, .ref (ad 11 0)), (1, .int x1), (2, .int x2), (3, .int x3), (4, .int x4), (5, .int x5), (6, .int x6)] []) : JJ X ad γ (RQm X ad 1 25 (outpi S)) (fcm (outpi S)) 1 25 cX12_whyOf 9 RX12 wsX12_whyOf (some .int) (fX12_whyOf_j91 F S x1 x2 x3 x4 x5 x6 x7 rec) S 91 [(0, .ref (ad 11 0)), (1, .int x1), (2, .int x2), (3, .int x3), (4, .int x4), (5, .int x5), (6, .int x6), (7, .int x7)] [] := by
  unfold fX12_whyOf_j91
  refine j_iconst (v := 0) 91 dX12_whyOf_91 (by decide) ?_
  exact tX12_whyOf_j92 X _ F S x1 x2 x3 x4 x5 x6 x7 0 _ ih
set_option maxRecDepth 100000 in
set_option maxHeartbeats 4000000 in
theorem tX12_whyOf_L7 {ad : Nat → Nat → Nat} (X : Ctx) (F : Nat) (S : St) (x1 : Int32) (x2 : Int32) (x3 : Int32) (x4 : Int32)   : ∀ (n : Nat) (γ : Nat → Nat) (x5 : Int32) (x6 : Int32), JJ X ad γ (RQm X ad 1 25 (outpi S)) (fcm (outpi S)) 1 25 cX12_whyOf 9 RX12 wsX12_whyOf (some .int) (fX12_whyOf_L7 F S x1 x2 x3 x4 n x5 x6) S 7 [(0, .ref (ad 11 0)), (1, .int x1), (2, .int x2), (3, .int x3), (4, .int x4), (5, .int x5), (6, .int x6)] [] := by
  intro n
  induction n with
  | zero => intro _ _ _; exact j_none
  | succ n ih =>
    intro γ x5 x6
    rw [show fX12_whyOf_L7 F S x1 x2 x3 x4 (n + 1) x5 x6 = fX12_whyOf_b7 F S x1 x2 x3 x4 (fX12_whyOf_L7 F S x1 x2 x3 x4 n) x5 x6 from rfl]
    unfold fX12_whyOf_b7
    refine j_iload 7 6 dX12_whyOf_7 rfl ?_
    refine j_aload_n 9 0 dX12_whyOf_9 rfl rfl ?_
    refine j_getr (c2 := 55) (n2 := 0) 10 2 nX12_whyOf_X12 rfl (by decide) (prs_mem (by decide) (by decide)) (by decide) (by decide) wX12_whyOf_f16 (Or.inl rfl) rfl rfl rfl dX12_whyOf_10 ?_
    refine j_iload_n 13 1 dX12_whyOf_13 rfl rfl ?_
    refine j_iald (c := 55) (n := 0) (L := 3) 14 (prs_mem (by decide) (by decide)) (by decide) rfl rfl rfl dX12_whyOf_14 ?_
    refine j_icmp_ge 15 160 dX12_whyOf_15 (by decide) (fun _ => ?_) (fun _ => ?_)
    · refine j_iload 160 5 dX12_whyOf_160 rfl ?_
      exact j_iret 162 rfl dX12_whyOf_162
    · refine j_sipush (v := 240) 18 dX12_whyOf_18 (by decide) ?_
      refine j_iload_n 21 1 dX12_whyOf_21 rfl rfl ?_
      refine j_imul 22 dX12_whyOf_22 ?_
      refine j_bipush (v := 6) 23 dX12_whyOf_23 (by decide) ?_
      refine j_iload 25 6 dX12_whyOf_25 rfl ?_
      refine j_imul 27 dX12_whyOf_27 ?_
      refine j_iadd 28 dX12_whyOf_28 ?_
      refine j_bndi (fun x7_1 => ?_)
      refine j_istore (lv2 := [(7, .int x7_1), (0, .ref (ad 11 0)), (1, .int x1), (2, .int x2), (3, .int x3), (4, .int x4), (5, .int x5), (6, .int x6)]) 29 dX12_whyOf_29 (by decide) rfl ?_
      refine j_aload_n 31 1 dX12_whyOf_31 rfl rfl ?_
      refine j_getr (c2 := 56) (n2 := 0) 32 3 nX12_whyOf_X12 rfl (by decide) (prs_mem (by decide) (by decide)) (by decide) (by decide) wX12_whyOf_f19 (Or.inl rfl) rfl rfl rfl dX12_whyOf_32 ?_
      refine j_iload 35 0 dX12_whyOf_35 rfl ?_
      refine j_iald (c := 56) (n := 0) (L := 720) 37 (prs_mem (by decide) (by decide)) (by decide) rfl rfl rfl dX12_whyOf_37 ?_
      refine j_bipush (v := 119) 38 dX12_whyOf_38 (by decide) ?_
      refine j_icmp_eq 40 91 dX12_whyOf_40 (by decide) (fun _ => ?_) (fun _ => ?_)
      · refine j_sub [1, 2, 3, 4, 5, 6, 7, 0] rfl ?_
        exact tX12_whyOf_j91 X _ F S x1 x2 x3 x4 x5 x6 x7_1 _ ih
      · refine j_aload_n 43 1 dX12_whyOf_43 rfl rfl ?_
        refine j_getr (c2 := 56) (n2 := 0) 44 3 nX12_whyOf_X12 rfl (by decide) (prs_mem (by decide) (by decide)) (by decide) (by decide) wX12_whyOf_f19 (Or.inl rfl) rfl rfl rfl dX12_whyOf_44 ?_
        refine j_iload 47 0 dX12_whyOf_47 rfl ?_
        refine j_iconst (v := 2) 49 dX12_whyOf_49 (by decide) ?_
        refine j_iadd 50 dX12_whyOf_50 ?_
        refine j_iald (c := 56) (n := 0) (L := 720) 51 (prs_mem (by decide) (by decide)) (by decide) rfl rfl rfl dX12_whyOf_51 ?_
        refine j_iload_n 52 3 dX12_whyOf_52 rfl rfl ?_
        refine j_bipush (v := 6) 53 dX12_whyOf_53 (by decide) ?_
        refine j_irem 55 dX12_whyOf_55 ?_
        refine j_icmp_ne 56 91 dX12_whyOf_56 (by decide) (fun _ => ?_) (fun _ => ?_)
        · refine j_sub [1, 2, 3, 4, 5, 6, 7, 0] rfl ?_
          exact tX12_whyOf_j91 X _ F S x1 x2 x3 x4 x5 x6 x7_1 _ ih
        · refine j_iload_n 59 4 dX12_whyOf_59 rfl rfl ?_
          refine j_i2l 60 dX12_whyOf_60 ?_
          refine j_aload_n 61 1 dX12_whyOf_61 rfl rfl ?_
          refine j_getr (c2 := 56) (n2 := 0) 62 3 nX12_whyOf_X12 rfl (by decide) (prs_mem (by decide) (by decide)) (by decide) (by decide) wX12_whyOf_f19 (Or.inl rfl) rfl rfl rfl dX12_whyOf_62 ?_
          refine j_iload 65 0 dX12_whyOf_65 rfl ?_
          refine j_iconst (v := 3) 67 dX12_whyOf_67 (by decide) ?_
          refine j_iadd 68 dX12_whyOf_68 ?_
          refine j_iald (c := 56) (n := 0) (L := 720) 69 (prs_mem (by decide) (by decide)) (by decide) rfl rfl rfl dX12_whyOf_69 ?_
          refine j_i2l 70 dX12_whyOf_70 ?_
          refine j_aload_n 71 1 dX12_whyOf_71 rfl rfl ?_
          refine j_getr (c2 := 56) (n2 := 0) 72 3 nX12_whyOf_X12 rfl (by decide) (prs_mem (by decide) (by decide)) (by decide) (by decide) wX12_whyOf_f19 (Or.inl rfl) rfl rfl rfl dX12_whyOf_72 ?_
          refine j_iload 75 0 dX12_whyOf_75 rfl ?_
          refine j_iconst (v := 4) 77 dX12_whyOf_77 (by decide) ?_
          refine j_iadd 78 dX12_whyOf_78 ?_
          refine j_iald (c := 56) (n := 0) (L := 720) 79 (prs_mem (by decide) (by decide)) (by decide) rfl rfl rfl dX12_whyOf_79 ?_
          refine j_i2l 80 dX12_whyOf_80 ?_
          refine j_callS_pi 81  [.long x3.toInt64, .long (gA S 56 0 (x7_1 + 3).toNatClampNeg).toInt64, .long (gA S 56 0 (x7_1 + 4).toNatClampNeg).toInt64] [] gX12_whyOf_X12_in rfl eX12_in ⟨Nat.le_of_ble_eq_true rfl, Nat.le_of_ble_eq_true rfl⟩ rfl rfl (Nat.le_of_ble_eq_true rfl) dX12_whyOf_81 (kX12_in S x3.toInt64 (gA S 56 0 (x7_1 + 3).toNatClampNeg).toInt64 (gA S 56 0 (x7_1 + 4).toNatClampNeg).toInt64) (fun b_3 γ => ?_)
          refine j_if_eq 84 91 dX12_whyOf_84 (by decide) (fun _ => ?_) (fun _ => ?_)
          · refine j_sub [1, 2, 3, 4, 5, 6, 7, 0] rfl ?_
            exact tX12_whyOf_j91 X _ F S x1 x2 x3 x4 x5 x6 x7_1 _ ih
          · refine j_iconst (v := 1) 87 dX12_whyOf_87 (by decide) ?_
            refine j_goto 88 92 dX12_whyOf_88 (by decide) ?_
            refine j_sub [1, 2, 3, 4, 5, 6, 7, 0] rfl ?_
            exact tX12_whyOf_j92 X _ F S x1 x2 x3 x4 x5 x6 x7_1 1 _ ih
set_option maxRecDepth 100000 in
set_option maxHeartbeats 4000000 in
theorem tX12_whyOf {ad : Nat → Nat → Nat} (X : Ctx) (γ : Nat → Nat) (F : Nat) (S : St) (p1 : Int32) (p2 : Int32) (p3 : Int32) (p4 : Int32) : JJ X ad γ (RQm X ad 1 25 (outpi S)) (fcm (outpi S)) 1 25 cX12_whyOf 9 RX12 wsX12_whyOf (some .int) (fX12_whyOf F S p1 p2 p3 p4) S 0 [(0, .ref (ad 11 0)), (1, .int p1), (2, .int p2), (3, .int p3), (4, .int p4)] [] := by
  unfold fX12_whyOf
  refine j_bipush (v := (-4)) 0 dX12_whyOf_0 (by decide) ?_
  refine j_istore (lv2 := [(5, .int (-4)), (0, .ref (ad 11 0)), (1, .int p1), (2, .int p2), (3, .int p3), (4, .int p4)]) 2 dX12_whyOf_2 (by decide) rfl ?_
  refine j_iconst (v := 0) 4 dX12_whyOf_4 (by decide) ?_
  refine j_istore (lv2 := [(6, .int 0), (5, .int (-4)), (0, .ref (ad 11 0)), (1, .int p1), (2, .int p2), (3, .int p3), (4, .int p4)]) 5 dX12_whyOf_5 (by decide) rfl ?_
  refine j_sub [2, 3, 4, 5, 6, 1, 0] rfl ?_
  exact tX12_whyOf_L7 X F S p1 p2 p3 p4 F _ (-4) 0
set_option maxRecDepth 100000 in
set_option maxHeartbeats 4000000 in
theorem kX12_whyOf {ad : Nat → Nat → Nat} (F : Nat) (S : St) (p1 : Int32) (p2 : Int32) (p3 : Int32) (p4 : Int32) : ∀ b, fX12_whyOf F S p1 p2 p3 p4 = some b → ∀ l dC dI cy, CT l dC dI cy ad yX12_whyOf wsX12_whyOf 1 25 [.ref (ad 11 0), .int p1, .int p2, .int p3, .int p4] S (some (.int b)) S :=
  fun b hb l dC dI cy => ct_of (l := l) (dC := dC) (dI := dI) (cy := cy) (outpi S) (by decide) rfl (Nat.le_of_ble_eq_true rfl) rfl (fun X γ => tX12_whyOf X γ F S p1 p2 p3 p4) b hb
-- X12_isLet
theorem nX12_isLet_X12 : ∀ w ∈ u_ws RX12 TX12 40, w ∈ wsX12_isLet := by decide +kernel
theorem wX12_isLet_f19 : Cond.fieldLink RX12 19 "TwoTonguesModel" "items" "[I" ∈ wsX12_isLet := by decide +kernel
set_option maxRecDepth 100000 in
set_option maxHeartbeats 4000000 in
theorem tX12_isLet {ad : Nat → Nat → Nat} (X : Ctx) (γ : Nat → Nat) (F : Nat) (S : St) (p1 : Int32) (p2 : Int32) (p3 : Int32) (p4 : Int32) : JJ X ad γ (RQm X ad 2 53 (outpi S)) (fcm (outpi S)) 2 53 cX12_isLet 6 RX12 wsX12_isLet (some .boolean) (fX12_isLet F S p1 p2 p3 p4) S 0 [(0, .ref (ad 11 0)), (1, .int p1), (2, .int p2), (3, .int p3), (4, .int p4)] [] := by
  unfold fX12_isLet
  refine j_aload_n 0 0 dX12_isLet_0 rfl rfl ?_
  refine j_iload_n 1 1 dX12_isLet_1 rfl rfl ?_
  refine j_iload_n 2 2 dX12_isLet_2 rfl rfl ?_
  refine j_iload_n 3 3 dX12_isLet_3 rfl rfl ?_
  refine j_iload 4 4 dX12_isLet_4 rfl ?_
  refine j_callV_pi 6 rfl (by decide) (prs_mem (by decide) (by decide))  [.int p1, .int p2, .int p3, .int p4] [] gX12_isLet_X12_whyOf rfl eX12_whyOf ⟨Nat.le_of_ble_eq_true rfl, Nat.le_of_ble_eq_true rfl⟩ rfl rfl (Nat.le_of_ble_eq_true rfl) dX12_isLet_6 (kX12_whyOf F S p1 p2 p3 p4) (fun b_1 γ => ?_)
  refine j_istore (lv2 := [(5, .int b_1), (0, .ref (ad 11 0)), (1, .int p1), (2, .int p2), (3, .int p3), (4, .int p4)]) 9 dX12_isLet_9 (by decide) rfl ?_
  refine j_iload 11 0 dX12_isLet_11 rfl ?_
  refine j_bipush (v := (-4)) 13 dX12_isLet_13 (by decide) ?_
  refine j_icmp_eq 15 43 dX12_isLet_15 (by decide) (fun _ => ?_) (fun _ => ?_)
  · refine j_iconst (v := 0) 43 dX12_isLet_43 (by decide) ?_
    exact j_zret 44 (by decide) rfl dX12_isLet_44
  · refine j_aload_n 18 1 dX12_isLet_18 rfl rfl ?_
    refine j_getr (c2 := 56) (n2 := 0) 19 3 nX12_isLet_X12 rfl (by decide) (prs_mem (by decide) (by decide)) (by decide) (by decide) wX12_isLet_f19 (Or.inl rfl) rfl rfl rfl dX12_isLet_19 ?_
    refine j_sipush (v := 240) 22 dX12_isLet_22 (by decide) ?_
    refine j_iload_n 25 2 dX12_isLet_25 rfl rfl ?_
    refine j_imul 26 dX12_isLet_26 ?_
    refine j_bipush (v := 6) 27 dX12_isLet_27 (by decide) ?_
    refine j_iload 29 0 dX12_isLet_29 rfl ?_
    refine j_imul 31 dX12_isLet_31 ?_
    refine j_iadd 32 dX12_isLet_32 ?_
    refine j_iald (c := 56) (n := 0) (L := 720) 33 (prs_mem (by decide) (by decide)) (by decide) rfl rfl rfl dX12_isLet_33 ?_
    refine j_bipush (v := 108) 34 dX12_isLet_34 (by decide) ?_
    refine j_icmp_ne 36 43 dX12_isLet_36 (by decide) (fun _ => ?_) (fun _ => ?_)
    · refine j_iconst (v := 0) 43 dX12_isLet_43 (by decide) ?_
      exact j_zret 44 (by decide) rfl dX12_isLet_44
    · refine j_iconst (v := 1) 39 dX12_isLet_39 (by decide) ?_
      refine j_goto 40 44 dX12_isLet_40 (by decide) ?_
      exact j_zret 44 (by decide) rfl dX12_isLet_44
set_option maxRecDepth 100000 in
set_option maxHeartbeats 4000000 in
theorem kX12_isLet {ad : Nat → Nat → Nat} (F : Nat) (S : St) (p1 : Int32) (p2 : Int32) (p3 : Int32) (p4 : Int32) : ∀ b, fX12_isLet F S p1 p2 p3 p4 = some b → ∀ l dC dI cy, CT l dC dI cy ad yX12_isLet wsX12_isLet 2 53 [.ref (ad 11 0), .int p1, .int p2, .int p3, .int p4] S (some (.int b)) S :=
  fun b hb l dC dI cy => ct_of (l := l) (dC := dC) (dI := dI) (cy := cy) (outpi S) (by decide) rfl (Nat.le_of_ble_eq_true rfl) rfl (fun X γ => tX12_isLet X γ F S p1 p2 p3 p4) b hb
-- X12_isUnlike
set_option maxRecDepth 100000 in
set_option maxHeartbeats 4000000 in
theorem tX12_isUnlike {ad : Nat → Nat → Nat} (X : Ctx) (γ : Nat → Nat) (F : Nat) (S : St) (p1 : Int32) (p2 : Int32) (p3 : Int32) : JJ X ad γ (RQm X ad 3 78 (outpi S)) (fcm (outpi S)) 3 78 cX12_isUnlike 4 RX12 wsX12_isUnlike (some .boolean) (fX12_isUnlike F S p1 p2 p3) S 0 [(0, .ref (ad 11 0)), (1, .int p1), (2, .int p2), (3, .int p3)] [] := by
  unfold fX12_isUnlike
  refine j_aload_n 0 0 dX12_isUnlike_0 rfl rfl ?_
  refine j_iconst (v := 0) 1 dX12_isUnlike_1 (by decide) ?_
  refine j_iload_n 2 1 dX12_isUnlike_2 rfl rfl ?_
  refine j_iload_n 3 2 dX12_isUnlike_3 rfl rfl ?_
  refine j_iload_n 4 3 dX12_isUnlike_4 rfl rfl ?_
  refine j_callV_pi 5 rfl (by decide) (prs_mem (by decide) (by decide))  [.int 0, .int p1, .int p2, .int p3] [] gX12_isUnlike_X12_isLet rfl eX12_isLet ⟨Nat.le_of_ble_eq_true rfl, Nat.le_of_ble_eq_true rfl⟩ rfl rfl (Nat.le_of_ble_eq_true rfl) dX12_isUnlike_5 (kX12_isLet F S 0 p1 p2 p3) (fun b_1 γ => ?_)
  refine j_aload_n 8 0 dX12_isUnlike_8 rfl rfl ?_
  refine j_iconst (v := 1) 9 dX12_isUnlike_9 (by decide) ?_
  refine j_iload_n 10 1 dX12_isUnlike_10 rfl rfl ?_
  refine j_iload_n 11 2 dX12_isUnlike_11 rfl rfl ?_
  refine j_iload_n 12 3 dX12_isUnlike_12 rfl rfl ?_
  refine j_callV_pi 13 rfl (by decide) (prs_mem (by decide) (by decide))  [.int 1, .int p1, .int p2, .int p3] [.int b_1] gX12_isUnlike_X12_isLet rfl eX12_isLet ⟨Nat.le_of_ble_eq_true rfl, Nat.le_of_ble_eq_true rfl⟩ rfl rfl (Nat.le_of_ble_eq_true rfl) dX12_isUnlike_13 (kX12_isLet F S 1 p1 p2 p3) (fun b_2 γ => ?_)
  refine j_icmp_eq 16 23 dX12_isUnlike_16 (by decide) (fun _ => ?_) (fun _ => ?_)
  · refine j_iconst (v := 0) 23 dX12_isUnlike_23 (by decide) ?_
    exact j_zret 24 (by decide) rfl dX12_isUnlike_24
  · refine j_iconst (v := 1) 19 dX12_isUnlike_19 (by decide) ?_
    refine j_goto 20 24 dX12_isUnlike_20 (by decide) ?_
    exact j_zret 24 (by decide) rfl dX12_isUnlike_24
set_option maxRecDepth 100000 in
set_option maxHeartbeats 4000000 in
theorem kX12_isUnlike {ad : Nat → Nat → Nat} (F : Nat) (S : St) (p1 : Int32) (p2 : Int32) (p3 : Int32) : ∀ b, fX12_isUnlike F S p1 p2 p3 = some b → ∀ l dC dI cy, CT l dC dI cy ad yX12_isUnlike wsX12_isUnlike 3 78 [.ref (ad 11 0), .int p1, .int p2, .int p3] S (some (.int b)) S :=
  fun b hb l dC dI cy => ct_of (l := l) (dC := dC) (dI := dI) (cy := cy) (outpi S) (by decide) rfl (Nat.le_of_ble_eq_true rfl) rfl (fun X γ => tX12_isUnlike X γ F S p1 p2 p3) b hb
-- X12_isAsked
theorem wX12_isAsked_c134 : Cond.constantLong RX12 134 (5) ∈ wsX12_isAsked := by decide +kernel
theorem wX12_isAsked_c114 : Cond.constantLong RX12 114 (255) ∈ wsX12_isAsked := by decide +kernel
set_option maxRecDepth 100000 in
set_option maxHeartbeats 4000000 in
theorem tX12_isAsked {ad : Nat → Nat → Nat} (X : Ctx) (γ : Nat → Nat) (S : St) (p0 : Int32) (p1 : Int32) (p2 : Int32) (p3 : Int32) (p4 : Int32) : JJ X ad γ (RQm X ad 2 45 (outpi S)) (fcm (outpi S)) 2 45 cX12_isAsked 5 RX12 wsX12_isAsked (some .boolean) (fX12_isAsked S p0 p1 p2 p3 p4) S 0 [(0, .int p0), (1, .int p1), (2, .int p2), (3, .int p3), (4, .int p4)] [] := by
  unfold fX12_isAsked
  refine j_iload_n 0 0 dX12_isAsked_0 rfl rfl ?_
  refine j_callS_pi 1  [.int p0] [] gX12_isAsked_X12_isTongue rfl eX12_isTongue ⟨Nat.le_of_ble_eq_true rfl, Nat.le_of_ble_eq_true rfl⟩ rfl rfl (Nat.le_of_ble_eq_true rfl) dX12_isAsked_1 (kX12_isTongue S p0) (fun b_1 γ => ?_)
  refine j_if_eq 4 55 dX12_isAsked_4 (by decide) (fun _ => ?_) (fun _ => ?_)
  · refine j_iconst (v := 0) 55 dX12_isAsked_55 (by decide) ?_
    exact j_zret 56 (by decide) rfl dX12_isAsked_56
  · refine j_iload_n 7 1 dX12_isAsked_7 rfl rfl ?_
    refine j_i2l 8 dX12_isAsked_8 ?_
    refine j_lconst (v := 0) 9 dX12_isAsked_9 (by decide) ?_
    refine j_ldc2 (v := 5) 10 dX12_isAsked_10 wX12_isAsked_c134 ?_
    refine j_callS_pi 13  [.long p1.toInt64, .long 0, .long 5] [] gX12_isAsked_X12_in rfl eX12_in ⟨Nat.le_of_ble_eq_true rfl, Nat.le_of_ble_eq_true rfl⟩ rfl rfl (Nat.le_of_ble_eq_true rfl) dX12_isAsked_13 (kX12_in S p1.toInt64 0 5) (fun b_2 γ => ?_)
    refine j_if_eq 16 55 dX12_isAsked_16 (by decide) (fun _ => ?_) (fun _ => ?_)
    · refine j_iconst (v := 0) 55 dX12_isAsked_55 (by decide) ?_
      exact j_zret 56 (by decide) rfl dX12_isAsked_56
    · refine j_iload_n 19 2 dX12_isAsked_19 rfl rfl ?_
      refine j_i2l 20 dX12_isAsked_20 ?_
      refine j_lconst (v := 0) 21 dX12_isAsked_21 (by decide) ?_
      refine j_ldc2 (v := 5) 22 dX12_isAsked_22 wX12_isAsked_c134 ?_
      refine j_callS_pi 25  [.long p2.toInt64, .long 0, .long 5] [] gX12_isAsked_X12_in rfl eX12_in ⟨Nat.le_of_ble_eq_true rfl, Nat.le_of_ble_eq_true rfl⟩ rfl rfl (Nat.le_of_ble_eq_true rfl) dX12_isAsked_25 (kX12_in S p2.toInt64 0 5) (fun b_3 γ => ?_)
      refine j_if_eq 28 55 dX12_isAsked_28 (by decide) (fun _ => ?_) (fun _ => ?_)
      · refine j_iconst (v := 0) 55 dX12_isAsked_55 (by decide) ?_
        exact j_zret 56 (by decide) rfl dX12_isAsked_56
      · refine j_iload_n 31 3 dX12_isAsked_31 rfl rfl ?_
        refine j_callS_pi 32  [.int p3] [] gX12_isAsked_X12_isYear rfl eX12_isYear ⟨Nat.le_of_ble_eq_true rfl, Nat.le_of_ble_eq_true rfl⟩ rfl rfl (Nat.le_of_ble_eq_true rfl) dX12_isAsked_32 (kX12_isYear S p3) (fun b_4 γ => ?_)
        refine j_if_eq 35 55 dX12_isAsked_35 (by decide) (fun _ => ?_) (fun _ => ?_)
        · refine j_iconst (v := 0) 55 dX12_isAsked_55 (by decide) ?_
          exact j_zret 56 (by decide) rfl dX12_isAsked_56
        · refine j_iload 38 4 dX12_isAsked_38 rfl ?_
          refine j_i2l 40 dX12_isAsked_40 ?_
          refine j_lconst (v := 0) 41 dX12_isAsked_41 (by decide) ?_
          refine j_ldc2 (v := 255) 42 dX12_isAsked_42 wX12_isAsked_c114 ?_
          refine j_callS_pi 45  [.long p4.toInt64, .long 0, .long 255] [] gX12_isAsked_X12_in rfl eX12_in ⟨Nat.le_of_ble_eq_true rfl, Nat.le_of_ble_eq_true rfl⟩ rfl rfl (Nat.le_of_ble_eq_true rfl) dX12_isAsked_45 (kX12_in S p4.toInt64 0 255) (fun b_5 γ => ?_)
          refine j_if_eq 48 55 dX12_isAsked_48 (by decide) (fun _ => ?_) (fun _ => ?_)
          · refine j_iconst (v := 0) 55 dX12_isAsked_55 (by decide) ?_
            exact j_zret 56 (by decide) rfl dX12_isAsked_56
          · refine j_iconst (v := 1) 51 dX12_isAsked_51 (by decide) ?_
            refine j_goto 52 56 dX12_isAsked_52 (by decide) ?_
            exact j_zret 56 (by decide) rfl dX12_isAsked_56
set_option maxRecDepth 100000 in
set_option maxHeartbeats 4000000 in
theorem kX12_isAsked {ad : Nat → Nat → Nat} (S : St) (p0 : Int32) (p1 : Int32) (p2 : Int32) (p3 : Int32) (p4 : Int32) : ∀ b, fX12_isAsked S p0 p1 p2 p3 p4 = some b → ∀ l dC dI cy, CT l dC dI cy ad yX12_isAsked wsX12_isAsked 2 45 [.int p0, .int p1, .int p2, .int p3, .int p4] S (some (.int b)) S :=
  fun b hb l dC dI cy => ct_of (l := l) (dC := dC) (dI := dI) (cy := cy) (outpi S) (by decide) rfl (Nat.le_of_ble_eq_true rfl) rfl (fun X γ => tX12_isAsked X γ S p0 p1 p2 p3 p4) b hb
-- X12_let
set_option maxRecDepth 100000 in
set_option maxHeartbeats 4000000 in
theorem tX12_let {ad : Nat → Nat → Nat} (X : Ctx) (γ : Nat → Nat) (F : Nat) (S : St) (p1 : Int32) (p2 : Int32) (p3 : Int32) (p4 : Int32) (p5 : Int32) : JJ X ad γ (RQm X ad 3 78 outei) (fcm outei) 3 78 cX12_let 6 RX12 wsX12_let (some .int) (fX12_let F S p1 p2 p3 p4 p5) S 0 [(0, .ref (ad 11 0)), (1, .int p1), (2, .int p2), (3, .int p3), (4, .int p4), (5, .int p5)] [] := by
  unfold fX12_let
  refine j_iload_n 0 1 dX12_let_0 rfl rfl ?_
  refine j_iload_n 1 2 dX12_let_1 rfl rfl ?_
  refine j_iload_n 2 3 dX12_let_2 rfl rfl ?_
  refine j_iload 3 4 dX12_let_3 rfl ?_
  refine j_iload 5 5 dX12_let_5 rfl ?_
  refine j_callS_pi 7  [.int p1, .int p2, .int p3, .int p4, .int p5] [] gX12_let_X12_isAsked rfl eX12_isAsked ⟨Nat.le_of_ble_eq_true rfl, Nat.le_of_ble_eq_true rfl⟩ rfl rfl (Nat.le_of_ble_eq_true rfl) dX12_let_7 (kX12_isAsked S p1 p2 p3 p4 p5) (fun b_1 γ => ?_)
  refine j_if_ne 10 15 dX12_let_10 (by decide) (fun _ => ?_) (fun _ => ?_)
  · refine j_aload_n 15 0 dX12_let_15 rfl rfl ?_
    refine j_iload 16 4 dX12_let_16 rfl ?_
    refine j_callV_ev 18 rfl (by decide) (prs_mem (by decide) (by decide))  [.int p4] [] gX12_let_X12_layWords rfl eX12_layWords ⟨Nat.le_of_ble_eq_true rfl, Nat.le_of_ble_eq_true rfl⟩ rfl rfl (Nat.le_of_ble_eq_true rfl) dX12_let_18 (kX12_layWords F S p4) (fun b_2 γ => ?_)
    refine j_aload_n 21 0 dX12_let_21 rfl rfl ?_
    refine j_iload_n 22 1 dX12_let_22 rfl rfl ?_
    refine j_bipush (v := 6) 23 dX12_let_23 (by decide) ?_
    refine j_iload_n 25 2 dX12_let_25 rfl rfl ?_
    refine j_imul 26 dX12_let_26 ?_
    refine j_iload_n 27 3 dX12_let_27 rfl rfl ?_
    refine j_iadd 28 dX12_let_28 ?_
    refine j_iload 29 4 dX12_let_29 rfl ?_
    refine j_iload 31 5 dX12_let_31 rfl ?_
    refine j_callV_pi 33 rfl (by decide) (prs_mem (by decide) (by decide))  [.int p1, .int (((6 : Int32) * p2) + p3), .int p4, .int p5] [] gX12_let_X12_isLet rfl eX12_isLet ⟨Nat.le_of_ble_eq_true rfl, Nat.le_of_ble_eq_true rfl⟩ rfl rfl (Nat.le_of_ble_eq_true rfl) dX12_let_33 (kX12_isLet F b_2 p1 (((6 : Int32) * p2) + p3) p4 p5) (fun b_3 γ => ?_)
    refine j_if_eq 36 43 dX12_let_36 (by decide) (fun _ => ?_) (fun _ => ?_)
    · refine j_iconst (v := 0) 43 dX12_let_43 (by decide) ?_
      exact j_iret 44 rfl dX12_let_44
    · refine j_iconst (v := 1) 39 dX12_let_39 (by decide) ?_
      refine j_goto 40 44 dX12_let_40 (by decide) ?_
      exact j_iret 44 rfl dX12_let_44
  · refine j_iconst (v := (-1)) 13 dX12_let_13 (by decide) ?_
    exact j_iret 14 rfl dX12_let_14
set_option maxRecDepth 100000 in
set_option maxHeartbeats 4000000 in
theorem kX12_let {ad : Nat → Nat → Nat} (F : Nat) (S : St) (p1 : Int32) (p2 : Int32) (p3 : Int32) (p4 : Int32) (p5 : Int32) : ∀ b, fX12_let F S p1 p2 p3 p4 p5 = some b → ∀ l dC dI cy, CT l dC dI cy ad yX12_let wsX12_let 3 78 [.ref (ad 11 0), .int p1, .int p2, .int p3, .int p4, .int p5] S (some (.int b.1)) b.2 :=
  fun b hb l dC dI cy => ct_of (l := l) (dC := dC) (dI := dI) (cy := cy) outei (by decide) rfl (Nat.le_of_ble_eq_true rfl) rfl (fun X γ => tX12_let X γ F S p1 p2 p3 p4 p5) b hb
-- X12_why
set_option maxRecDepth 100000 in
set_option maxHeartbeats 4000000 in
theorem tX12_why {ad : Nat → Nat → Nat} (X : Ctx) (γ : Nat → Nat) (F : Nat) (S : St) (p1 : Int32) (p2 : Int32) (p3 : Int32) (p4 : Int32) (p5 : Int32) : JJ X ad γ (RQm X ad 3 69 outei) (fcm outei) 3 69 cX12_why 6 RX12 wsX12_why (some .int) (fX12_why F S p1 p2 p3 p4 p5) S 0 [(0, .ref (ad 11 0)), (1, .int p1), (2, .int p2), (3, .int p3), (4, .int p4), (5, .int p5)] [] := by
  unfold fX12_why
  refine j_iload_n 0 1 dX12_why_0 rfl rfl ?_
  refine j_iload_n 1 2 dX12_why_1 rfl rfl ?_
  refine j_iload_n 2 3 dX12_why_2 rfl rfl ?_
  refine j_iload 3 4 dX12_why_3 rfl ?_
  refine j_iload 5 5 dX12_why_5 rfl ?_
  refine j_callS_pi 7  [.int p1, .int p2, .int p3, .int p4, .int p5] [] gX12_why_X12_isAsked rfl eX12_isAsked ⟨Nat.le_of_ble_eq_true rfl, Nat.le_of_ble_eq_true rfl⟩ rfl rfl (Nat.le_of_ble_eq_true rfl) dX12_why_7 (kX12_isAsked S p1 p2 p3 p4 p5) (fun b_1 γ => ?_)
  refine j_if_ne 10 15 dX12_why_10 (by decide) (fun _ => ?_) (fun _ => ?_)
  · refine j_aload_n 15 0 dX12_why_15 rfl rfl ?_
    refine j_iload 16 4 dX12_why_16 rfl ?_
    refine j_callV_ev 18 rfl (by decide) (prs_mem (by decide) (by decide))  [.int p4] [] gX12_why_X12_layWords rfl eX12_layWords ⟨Nat.le_of_ble_eq_true rfl, Nat.le_of_ble_eq_true rfl⟩ rfl rfl (Nat.le_of_ble_eq_true rfl) dX12_why_18 (kX12_layWords F S p4) (fun b_2 γ => ?_)
    refine j_aload_n 21 0 dX12_why_21 rfl rfl ?_
    refine j_iload_n 22 1 dX12_why_22 rfl rfl ?_
    refine j_bipush (v := 6) 23 dX12_why_23 (by decide) ?_
    refine j_iload_n 25 2 dX12_why_25 rfl rfl ?_
    refine j_imul 26 dX12_why_26 ?_
    refine j_iload_n 27 3 dX12_why_27 rfl rfl ?_
    refine j_iadd 28 dX12_why_28 ?_
    refine j_iload 29 4 dX12_why_29 rfl ?_
    refine j_iload 31 5 dX12_why_31 rfl ?_
    refine j_callV_pi 33 rfl (by decide) (prs_mem (by decide) (by decide))  [.int p1, .int (((6 : Int32) * p2) + p3), .int p4, .int p5] [] gX12_why_X12_whyOf rfl eX12_whyOf ⟨Nat.le_of_ble_eq_true rfl, Nat.le_of_ble_eq_true rfl⟩ rfl rfl (Nat.le_of_ble_eq_true rfl) dX12_why_33 (kX12_whyOf F b_2 p1 (((6 : Int32) * p2) + p3) p4 p5) (fun b_3 γ => ?_)
    exact j_iret 36 rfl dX12_why_36
  · refine j_iconst (v := (-1)) 13 dX12_why_13 (by decide) ?_
    exact j_iret 14 rfl dX12_why_14
set_option maxRecDepth 100000 in
set_option maxHeartbeats 4000000 in
theorem kX12_why {ad : Nat → Nat → Nat} (F : Nat) (S : St) (p1 : Int32) (p2 : Int32) (p3 : Int32) (p4 : Int32) (p5 : Int32) : ∀ b, fX12_why F S p1 p2 p3 p4 p5 = some b → ∀ l dC dI cy, CT l dC dI cy ad yX12_why wsX12_why 3 69 [.ref (ad 11 0), .int p1, .int p2, .int p3, .int p4, .int p5] S (some (.int b.1)) b.2 :=
  fun b hb l dC dI cy => ct_of (l := l) (dC := dC) (dI := dI) (cy := cy) outei (by decide) rfl (Nat.le_of_ble_eq_true rfl) rfl (fun X γ => tX12_why X γ F S p1 p2 p3 p4 p5) b hb
-- X12_unlike
theorem wX12_unlike_c114 : Cond.constantLong RX12 114 (255) ∈ wsX12_unlike := by decide +kernel
set_option maxRecDepth 100000 in
set_option maxHeartbeats 4000000 in
theorem tX12_unlike_L37 {ad : Nat → Nat → Nat} (X : Ctx) (F : Nat) (S : St) (x1 : Int32) (x2 : Int32) (x3 : Int32) (k73 : Int32 → Option (Int32 × St))  (hk73 : ∀ (γ : Nat → Nat) (x4 : Int32), JJ X ad γ (RQm X ad 4 101 outei) (fcm outei) 4 101 cX12_unlike 6 RX12 wsX12_unlike (some .int) (k73 x4) S 73 [(3, .int x3), (4, .int x4)] []) : ∀ (n : Nat) (γ : Nat → Nat) (x4 : Int32) (x5 : Int32), JJ X ad γ (RQm X ad 4 101 outei) (fcm outei) 4 101 cX12_unlike 6 RX12 wsX12_unlike (some .int) (fX12_unlike_L37 F S x1 x2 x3 k73 n x4 x5) S 37 [(0, .ref (ad 11 0)), (1, .int x1), (2, .int x2), (3, .int x3), (4, .int x4), (5, .int x5)] [] := by
  intro n
  induction n with
  | zero => intro _ _ _; exact j_none
  | succ n ih =>
    intro γ x4 x5
    rw [show fX12_unlike_L37 F S x1 x2 x3 k73 (n + 1) x4 x5 = fX12_unlike_b37 F S x1 x2 x3 k73 (fX12_unlike_L37 F S x1 x2 x3 k73 n) x4 x5 from rfl]
    unfold fX12_unlike_b37
    refine j_iload 37 5 dX12_unlike_37 rfl ?_
    refine j_bipush (v := 36) 39 dX12_unlike_39 (by decide) ?_
    refine j_icmp_ge 41 73 dX12_unlike_41 (by decide) (fun _ => ?_) (fun _ => ?_)
    · refine j_sub [3, 4] rfl ?_
      exact hk73 _ x4
    · refine j_aload_n 44 0 dX12_unlike_44 rfl rfl ?_
      refine j_iload 45 5 dX12_unlike_45 rfl ?_
      refine j_iload_n 47 1 dX12_unlike_47 rfl rfl ?_
      refine j_iload_n 48 2 dX12_unlike_48 rfl rfl ?_
      refine j_callV_pi 49 rfl (by decide) (prs_mem (by decide) (by decide))  [.int x5, .int x1, .int x2] [] gX12_unlike_X12_isUnlike rfl eX12_isUnlike ⟨Nat.le_of_ble_eq_true rfl, Nat.le_of_ble_eq_true rfl⟩ rfl rfl (Nat.le_of_ble_eq_true rfl) dX12_unlike_49 (kX12_isUnlike F S x5 x1 x2) (fun b_4 γ => ?_)
      refine j_if_eq 52 67 dX12_unlike_52 (by decide) (fun _ => ?_) (fun _ => ?_)
      · refine j_iinc (v := x5 + 1) (lv2 := [(5, .int (x5 + 1)), (0, .ref (ad 11 0)), (1, .int x1), (2, .int x2), (3, .int x3), (4, .int x4)]) 67 5 dX12_unlike_67 rfl rfl (by decide) rfl ?_
        refine j_goto 70 37 dX12_unlike_70 (by decide) ?_
        refine j_sub [1, 2, 3, 4, 5, 0] rfl ?_
        exact ih _ x4 (x5 + 1)
      · refine j_iload 55 4 dX12_unlike_55 rfl ?_
        refine j_iload_n 57 3 dX12_unlike_57 rfl rfl ?_
        refine j_icmp_ne 58 64 dX12_unlike_58 (by decide) (fun _ => ?_) (fun _ => ?_)
        · refine j_iinc (v := x4 + 1) (lv2 := [(4, .int (x4 + 1)), (0, .ref (ad 11 0)), (1, .int x1), (2, .int x2), (3, .int x3), (5, .int x5)]) 64 4 dX12_unlike_64 rfl rfl (by decide) rfl ?_
          refine j_iinc (v := x5 + 1) (lv2 := [(5, .int (x5 + 1)), (4, .int (x4 + 1)), (0, .ref (ad 11 0)), (1, .int x1), (2, .int x2), (3, .int x3)]) 67 5 dX12_unlike_67 rfl rfl (by decide) rfl ?_
          refine j_goto 70 37 dX12_unlike_70 (by decide) ?_
          refine j_sub [2, 3, 4, 5, 1, 0] rfl ?_
          exact ih _ (x4 + 1) (x5 + 1)
        · refine j_iload 61 5 dX12_unlike_61 rfl ?_
          exact j_iret 63 rfl dX12_unlike_63
set_option maxRecDepth 100000 in
set_option maxHeartbeats 4000000 in
theorem tX12_unlike {ad : Nat → Nat → Nat} (X : Ctx) (γ : Nat → Nat) (F : Nat) (S : St) (p1 : Int32) (p2 : Int32) (p3 : Int32) : JJ X ad γ (RQm X ad 4 101 outei) (fcm outei) 4 101 cX12_unlike 6 RX12 wsX12_unlike (some .int) (fX12_unlike F S p1 p2 p3) S 0 [(0, .ref (ad 11 0)), (1, .int p1), (2, .int p2), (3, .int p3)] [] := by
  unfold fX12_unlike
  refine j_iload_n 0 1 dX12_unlike_0 rfl rfl ?_
  refine j_callS_pi 1  [.int p1] [] gX12_unlike_X12_isYear rfl eX12_isYear ⟨Nat.le_of_ble_eq_true rfl, Nat.le_of_ble_eq_true rfl⟩ rfl rfl (Nat.le_of_ble_eq_true rfl) dX12_unlike_1 (kX12_isYear S p1) (fun b_1 γ => ?_)
  refine j_if_eq 4 24 dX12_unlike_4 (by decide) (fun _ => ?_) (fun _ => ?_)
  · refine j_iconst (v := (-1)) 24 dX12_unlike_24 (by decide) ?_
    exact j_iret 25 rfl dX12_unlike_25
  · refine j_iload_n 7 2 dX12_unlike_7 rfl rfl ?_
    refine j_i2l 8 dX12_unlike_8 ?_
    refine j_lconst (v := 0) 9 dX12_unlike_9 (by decide) ?_
    refine j_ldc2 (v := 255) 10 dX12_unlike_10 wX12_unlike_c114 ?_
    refine j_callS_pi 13  [.long p2.toInt64, .long 0, .long 255] [] gX12_unlike_X12_in rfl eX12_in ⟨Nat.le_of_ble_eq_true rfl, Nat.le_of_ble_eq_true rfl⟩ rfl rfl (Nat.le_of_ble_eq_true rfl) dX12_unlike_13 (kX12_in S p2.toInt64 0 255) (fun b_2 γ => ?_)
    refine j_if_eq 16 24 dX12_unlike_16 (by decide) (fun _ => ?_) (fun _ => ?_)
    · refine j_iconst (v := (-1)) 24 dX12_unlike_24 (by decide) ?_
      exact j_iret 25 rfl dX12_unlike_25
    · refine j_iload_n 19 3 dX12_unlike_19 rfl rfl ?_
      refine j_iconst (v := (-1)) 20 dX12_unlike_20 (by decide) ?_
      refine j_icmp_ge 21 26 dX12_unlike_21 (by decide) (fun _ => ?_) (fun _ => ?_)
      · refine j_aload_n 26 0 dX12_unlike_26 rfl rfl ?_
        refine j_iload_n 27 1 dX12_unlike_27 rfl rfl ?_
        refine j_callV_ev 28 rfl (by decide) (prs_mem (by decide) (by decide))  [.int p1] [] gX12_unlike_X12_layWords rfl eX12_layWords ⟨Nat.le_of_ble_eq_true rfl, Nat.le_of_ble_eq_true rfl⟩ rfl rfl (Nat.le_of_ble_eq_true rfl) dX12_unlike_28 (kX12_layWords F S p1) (fun b_3 γ => ?_)
        refine j_iconst (v := 0) 31 dX12_unlike_31 (by decide) ?_
        refine j_istore (lv2 := [(4, .int 0), (0, .ref (ad 11 0)), (1, .int p1), (2, .int p2), (3, .int p3)]) 32 dX12_unlike_32 (by decide) rfl ?_
        refine j_iconst (v := 0) 34 dX12_unlike_34 (by decide) ?_
        refine j_istore (lv2 := [(5, .int 0), (4, .int 0), (0, .ref (ad 11 0)), (1, .int p1), (2, .int p2), (3, .int p3)]) 35 dX12_unlike_35 (by decide) rfl ?_
        refine j_sub [2, 3, 4, 5, 1, 0] rfl ?_
        refine tX12_unlike_L37 X F b_3 p1 p2 p3 _ (fun γ x4_5 => ?_) F _ 0 0
        refine j_iload_n 73 0 dX12_unlike_73 rfl rfl ?_
        refine j_if_ge 74 82 dX12_unlike_74 (by decide) (fun _ => ?_) (fun _ => ?_)
        · refine j_bipush (v := (-4)) 82 dX12_unlike_82 (by decide) ?_
          exact j_iret 84 rfl dX12_unlike_84
        · refine j_iload 77 1 dX12_unlike_77 rfl ?_
          refine j_goto 79 84 dX12_unlike_79 (by decide) ?_
          exact j_iret 84 rfl dX12_unlike_84
      · refine j_iconst (v := (-1)) 24 dX12_unlike_24 (by decide) ?_
        exact j_iret 25 rfl dX12_unlike_25
set_option maxRecDepth 100000 in
set_option maxHeartbeats 4000000 in
theorem kX12_unlike {ad : Nat → Nat → Nat} (F : Nat) (S : St) (p1 : Int32) (p2 : Int32) (p3 : Int32) : ∀ b, fX12_unlike F S p1 p2 p3 = some b → ∀ l dC dI cy, CT l dC dI cy ad yX12_unlike wsX12_unlike 4 101 [.ref (ad 11 0), .int p1, .int p2, .int p3] S (some (.int b.1)) b.2 :=
  fun b hb l dC dI cy => ct_of (l := l) (dC := dC) (dI := dI) (cy := cy) outei (by decide) rfl (Nat.le_of_ble_eq_true rfl) rfl (fun X γ => tX12_unlike X γ F S p1 p2 p3) b hb
-- X12_least
theorem wX12_least_c170 : Cond.constantLong RX12 170 (35) ∈ wsX12_least := by decide +kernel
set_option maxRecDepth 100000 in
set_option maxHeartbeats 4000000 in
theorem tX12_least_j58 {ad : Nat → Nat → Nat} (X : Ctx) (γ : Nat → Nat) (F : Nat) (S : St) (x1 : Int32) (x2 : Int32) (x3 : Int32) (x4 : Int32) (rec : Int32 → Int32 → Option (Int32 × St))  (ih : ∀ (γ : Nat → Nat) (x3 : Int32) (x4 : Int32), JJ X ad γ (RQm X ad 4 101 outei) (fcm outei) 4 101 cX12_least 5 RX12 wsX12_least (some .int) (rec x3 x4) S 32 [(0, .ref (ad 11 0)), (1, .int x1), (2, .int x2), (3, .int x3), (4, .int x4)] []) : JJ X ad γ (RQm X ad 4 101 outei) (fcm outei) 4 101 cX12_least 5 RX12 wsX12_least (some .int) (fX12_least_j58 F S x1 x2 x3 x4 rec) S 58 [(0, .ref (ad 11 0)), (1, .int x1), (2, .int x2), (3, .int x3), (4, .int x4)] [] := by
  unfold fX12_least_j58
  refine j_aload_n 58 0 dX12_least_58 rfl rfl ?_
  refine j_iload_n 59 1 dX12_least_59 rfl rfl ?_
  refine j_iload_n 60 2 dX12_least_60 rfl rfl ?_
  refine j_iload 61 4 dX12_least_61 rfl ?_
  refine j_callV_pi 63 rfl (by decide) (prs_mem (by decide) (by decide))  [.int x1, .int x2, .int x4] [] gX12_least_X12_isUnlike rfl eX12_isUnlike ⟨Nat.le_of_ble_eq_true rfl, Nat.le_of_ble_eq_true rfl⟩ rfl rfl (Nat.le_of_ble_eq_true rfl) dX12_least_63 (kX12_isUnlike F S x1 x2 x4) (fun b_4 γ => ?_)
  refine j_if_eq 66 72 dX12_least_66 (by decide) (fun _ => ?_) (fun _ => ?_)
  · refine j_iinc (v := x4 + 1) (lv2 := [(4, .int (x4 + 1)), (0, .ref (ad 11 0)), (1, .int x1), (2, .int x2), (3, .int x3)]) 72 4 dX12_least_72 rfl rfl (by decide) rfl ?_
    refine j_goto 75 32 dX12_least_75 (by decide) ?_
    refine j_sub [1, 2, 3, 4, 0] rfl ?_
    exact ih _ x3 (x4 + 1)
  · refine j_iload 69 4 dX12_least_69 rfl ?_
    refine j_istore_n (lv2 := [(3, .int x4), (0, .ref (ad 11 0)), (1, .int x1), (2, .int x2), (4, .int x4)]) 71 dX12_least_71 rfl (by decide) rfl ?_
    refine j_iinc (v := x4 + 1) (lv2 := [(4, .int (x4 + 1)), (3, .int x4), (0, .ref (ad 11 0)), (1, .int x1), (2, .int x2)]) 72 4 dX12_least_72 rfl rfl (by decide) rfl ?_
    refine j_goto 75 32 dX12_least_75 (by decide) ?_
    refine j_sub [2, 3, 4, 1, 0] rfl ?_
    exact ih _ x4 (x4 + 1)
set_option maxRecDepth 100000 in
set_option maxHeartbeats 4000000 in
theorem tX12_least_L32 {ad : Nat → Nat → Nat} (X : Ctx) (F : Nat) (S : St) (x1 : Int32) (x2 : Int32)   : ∀ (n : Nat) (γ : Nat → Nat) (x3 : Int32) (x4 : Int32), JJ X ad γ (RQm X ad 4 101 outei) (fcm outei) 4 101 cX12_least 5 RX12 wsX12_least (some .int) (fX12_least_L32 F S x1 x2 n x3 x4) S 32 [(0, .ref (ad 11 0)), (1, .int x1), (2, .int x2), (3, .int x3), (4, .int x4)] [] := by
  intro n
  induction n with
  | zero => intro _ _ _; exact j_none
  | succ n ih =>
    intro γ x3 x4
    rw [show fX12_least_L32 F S x1 x2 (n + 1) x3 x4 = fX12_least_b32 F S x1 x2 (fX12_least_L32 F S x1 x2 n) x3 x4 from rfl]
    unfold fX12_least_b32
    refine j_iload 32 4 dX12_least_32 rfl ?_
    refine j_sipush (v := 256) 34 dX12_least_34 (by decide) ?_
    refine j_icmp_ge 37 78 dX12_least_37 (by decide) (fun _ => ?_) (fun _ => ?_)
    · refine j_iload_n 78 3 dX12_least_78 rfl rfl ?_
      exact j_iret 79 rfl dX12_least_79
    · refine j_iload_n 40 3 dX12_least_40 rfl rfl ?_
      refine j_bipush (v := (-4)) 41 dX12_least_41 (by decide) ?_
      refine j_icmp_eq 43 58 dX12_least_43 (by decide) (fun _ => ?_) (fun _ => ?_)
      · exact tX12_least_j58 X _ F S x1 x2 x3 x4 _ ih
      · refine j_iload 46 4 dX12_least_46 rfl ?_
        refine j_callS_pi 48  [.int x4] [] gX12_least_X12_bits rfl eX12_bits ⟨Nat.le_of_ble_eq_true rfl, Nat.le_of_ble_eq_true rfl⟩ rfl rfl (Nat.le_of_ble_eq_true rfl) dX12_least_48 (kX12_bits F S x4) (fun b_5 γ => ?_)
        refine j_iload_n 51 3 dX12_least_51 rfl rfl ?_
        refine j_callS_pi 52  [.int x3] [.int b_5] gX12_least_X12_bits rfl eX12_bits ⟨Nat.le_of_ble_eq_true rfl, Nat.le_of_ble_eq_true rfl⟩ rfl rfl (Nat.le_of_ble_eq_true rfl) dX12_least_52 (kX12_bits F S x3) (fun b_6 γ => ?_)
        refine j_icmp_ge 55 72 dX12_least_55 (by decide) (fun _ => ?_) (fun _ => ?_)
        · refine j_iinc (v := x4 + 1) (lv2 := [(4, .int (x4 + 1)), (0, .ref (ad 11 0)), (1, .int x1), (2, .int x2), (3, .int x3)]) 72 4 dX12_least_72 rfl rfl (by decide) rfl ?_
          refine j_goto 75 32 dX12_least_75 (by decide) ?_
          refine j_sub [1, 2, 3, 4, 0] rfl ?_
          exact ih _ x3 (x4 + 1)
        · exact tX12_least_j58 X _ F S x1 x2 x3 x4 _ ih
set_option maxRecDepth 100000 in
set_option maxHeartbeats 4000000 in
theorem tX12_least {ad : Nat → Nat → Nat} (X : Ctx) (γ : Nat → Nat) (F : Nat) (S : St) (p1 : Int32) (p2 : Int32) : JJ X ad γ (RQm X ad 4 101 outei) (fcm outei) 4 101 cX12_least 5 RX12 wsX12_least (some .int) (fX12_least F S p1 p2) S 0 [(0, .ref (ad 11 0)), (1, .int p1), (2, .int p2)] [] := by
  unfold fX12_least
  refine j_iload_n 0 1 dX12_least_0 rfl rfl ?_
  refine j_i2l 1 dX12_least_1 ?_
  refine j_lconst (v := 0) 2 dX12_least_2 (by decide) ?_
  refine j_ldc2 (v := 35) 3 dX12_least_3 wX12_least_c170 ?_
  refine j_callS_pi 6  [.long p1.toInt64, .long 0, .long 35] [] gX12_least_X12_in rfl eX12_in ⟨Nat.le_of_ble_eq_true rfl, Nat.le_of_ble_eq_true rfl⟩ rfl rfl (Nat.le_of_ble_eq_true rfl) dX12_least_6 (kX12_in S p1.toInt64 0 35) (fun b_1 γ => ?_)
  refine j_if_eq 9 19 dX12_least_9 (by decide) (fun _ => ?_) (fun _ => ?_)
  · refine j_iconst (v := (-1)) 19 dX12_least_19 (by decide) ?_
    exact j_iret 20 rfl dX12_least_20
  · refine j_iload_n 12 2 dX12_least_12 rfl rfl ?_
    refine j_callS_pi 13  [.int p2] [] gX12_least_X12_isYear rfl eX12_isYear ⟨Nat.le_of_ble_eq_true rfl, Nat.le_of_ble_eq_true rfl⟩ rfl rfl (Nat.le_of_ble_eq_true rfl) dX12_least_13 (kX12_isYear S p2) (fun b_2 γ => ?_)
    refine j_if_ne 16 21 dX12_least_16 (by decide) (fun _ => ?_) (fun _ => ?_)
    · refine j_aload_n 21 0 dX12_least_21 rfl rfl ?_
      refine j_iload_n 22 2 dX12_least_22 rfl rfl ?_
      refine j_callV_ev 23 rfl (by decide) (prs_mem (by decide) (by decide))  [.int p2] [] gX12_least_X12_layWords rfl eX12_layWords ⟨Nat.le_of_ble_eq_true rfl, Nat.le_of_ble_eq_true rfl⟩ rfl rfl (Nat.le_of_ble_eq_true rfl) dX12_least_23 (kX12_layWords F S p2) (fun b_3 γ => ?_)
      refine j_bipush (v := (-4)) 26 dX12_least_26 (by decide) ?_
      refine j_istore_n (lv2 := [(3, .int (-4)), (0, .ref (ad 11 0)), (1, .int p1), (2, .int p2)]) 28 dX12_least_28 rfl (by decide) rfl ?_
      refine j_iconst (v := 0) 29 dX12_least_29 (by decide) ?_
      refine j_istore (lv2 := [(4, .int 0), (3, .int (-4)), (0, .ref (ad 11 0)), (1, .int p1), (2, .int p2)]) 30 dX12_least_30 (by decide) rfl ?_
      refine j_sub [2, 3, 4, 1, 0] rfl ?_
      exact tX12_least_L32 X F b_3 p1 p2 F _ (-4) 0
    · refine j_iconst (v := (-1)) 19 dX12_least_19 (by decide) ?_
      exact j_iret 20 rfl dX12_least_20
set_option maxRecDepth 100000 in
set_option maxHeartbeats 4000000 in
theorem kX12_least {ad : Nat → Nat → Nat} (F : Nat) (S : St) (p1 : Int32) (p2 : Int32) : ∀ b, fX12_least F S p1 p2 = some b → ∀ l dC dI cy, CT l dC dI cy ad yX12_least wsX12_least 4 101 [.ref (ad 11 0), .int p1, .int p2] S (some (.int b.1)) b.2 :=
  fun b hb l dC dI cy => ct_of (l := l) (dC := dC) (dI := dI) (cy := cy) outei (by decide) rfl (Nat.le_of_ble_eq_true rfl) rfl (fun X γ => tX12_least X γ F S p1 p2) b hb
-- X12_doneBy
theorem nX12_doneBy_X12 : ∀ w ∈ u_ws RX12 TX12 40, w ∈ wsX12_doneBy := by decide +kernel
theorem wX12_doneBy_c170 : Cond.constantLong RX12 170 (35) ∈ wsX12_doneBy := by decide +kernel
theorem wX12_doneBy_c114 : Cond.constantLong RX12 114 (255) ∈ wsX12_doneBy := by decide +kernel
theorem wX12_doneBy_f73 : Cond.fieldLink RX12 73 "TwoTonguesModel" "words" "[I" ∈ wsX12_doneBy := by decide +kernel
set_option maxRecDepth 100000 in
set_option maxHeartbeats 4000000 in
theorem tX12_doneBy_j110 {ad : Nat → Nat → Nat} (X : Ctx) (γ : Nat → Nat) (F : Nat) (S : St) (x1 : Int32) (x2 : Int32) (x3 : Int32) (x5 : Int32) (x6 : Int32) (s0 : Int32) (s1 : Int32) (rec : Int32 → Int32 → St → Option (Int32 × St))  (ih : ∀ (γ : Nat → Nat) (x4 : Int32) (x5 : Int32) (S : St), JJ X ad γ (RQm X ad 4 101 outei) (fcm outei) 4 101 cX12_doneBy 7 RX12 wsX12_doneBy (some .int) (rec x4 x5 S) S 57 [(0, .ref (ad 11 0)), (1, .int x1), (2, .int x2), (3, .int x3), (4, .int x4), (5, .int x5)] []) : JJ X ad γ (RQm X ad 4 101 outei) (fcm outei) 4 101 cX12_doneBy 7 RX12 wsX12_doneBy (some .int) (fX12_doneBy_j110 F S x1 x2 x3 x5 x6 s0 s1 rec) S 110 [(0, .ref (ad 11 0)), (1, .int x1), (2, .int x2), (3, .int x3), (5, .int x5), (6, .int x6)] [.int s0, .int s1] := by
  unfold fX12_doneBy_j110
  refine j_ior 110 dX12_doneBy_110 ?_
  refine j_bndi (fun x4_9 => ?_)
  refine j_istore (lv2 := [(4, .int x4_9), (0, .ref (ad 11 0)), (1, .int x1), (2, .int x2), (3, .int x3), (5, .int x5), (6, .int x6)]) 111 dX12_doneBy_111 (by decide) rfl ?_
  refine j_aload_n 113 1 dX12_doneBy_113 rfl rfl ?_
  refine j_getr (c2 := 74) (n2 := 0) 114 30 nX12_doneBy_X12 rfl (by decide) (prs_mem (by decide) (by decide)) (by decide) (by decide) wX12_doneBy_f73 (Or.inl rfl) rfl rfl rfl dX12_doneBy_114 ?_
  refine j_iload 117 5 dX12_doneBy_117 rfl ?_
  refine j_iload 119 6 dX12_doneBy_119 rfl ?_
  refine j_iast (c := 74) (n := 0) (L := 16) 121 (prs_mem (by decide) (by decide)) (by decide) rfl rfl rfl dX12_doneBy_121 (j_bs (fun S_10 => ?_))
  refine j_iinc (v := x5 + 1) (lv2 := [(5, .int (x5 + 1)), (4, .int x4_9), (0, .ref (ad 11 0)), (1, .int x1), (2, .int x2), (3, .int x3), (6, .int x6)]) 122 5 dX12_doneBy_122 rfl rfl (by decide) rfl ?_
  refine j_goto 125 57 dX12_doneBy_125 (by decide) ?_
  refine j_sub [2, 3, 4, 5, 1, 0] rfl ?_
  exact ih _ x4_9 (x5 + 1) S_10
set_option maxRecDepth 100000 in
set_option maxHeartbeats 4000000 in
theorem tX12_doneBy_L57 {ad : Nat → Nat → Nat} (X : Ctx) (F : Nat) (x1 : Int32) (x2 : Int32) (x3 : Int32)   : ∀ (n : Nat) (γ : Nat → Nat) (x4 : Int32) (x5 : Int32) (S : St), JJ X ad γ (RQm X ad 4 101 outei) (fcm outei) 4 101 cX12_doneBy 7 RX12 wsX12_doneBy (some .int) (fX12_doneBy_L57 F x1 x2 x3 n x4 x5 S) S 57 [(0, .ref (ad 11 0)), (1, .int x1), (2, .int x2), (3, .int x3), (4, .int x4), (5, .int x5)] [] := by
  intro n
  induction n with
  | zero => intro _ _ _ _; exact j_none
  | succ n ih =>
    intro γ x4 x5 S
    rw [show fX12_doneBy_L57 F x1 x2 x3 (n + 1) x4 x5 S = fX12_doneBy_b57 F x1 x2 x3 (fX12_doneBy_L57 F x1 x2 x3 n) x4 x5 S from rfl]
    unfold fX12_doneBy_b57
    refine j_iload 57 5 dX12_doneBy_57 rfl ?_
    refine j_bipush (v := 8) 59 dX12_doneBy_59 (by decide) ?_
    refine j_icmp_ge 61 128 dX12_doneBy_61 (by decide) (fun _ => ?_) (fun _ => ?_)
    · refine j_iload 128 4 dX12_doneBy_128 rfl ?_
      exact j_iret 130 rfl dX12_doneBy_130
    · refine j_aload_n 64 0 dX12_doneBy_64 rfl rfl ?_
      refine j_getr (c2 := 74) (n2 := 0) 65 30 nX12_doneBy_X12 rfl (by decide) (prs_mem (by decide) (by decide)) (by decide) (by decide) wX12_doneBy_f73 (Or.inl rfl) rfl rfl rfl dX12_doneBy_65 ?_
      refine j_iload 68 5 dX12_doneBy_68 rfl ?_
      refine j_iald (c := 74) (n := 0) (L := 16) 70 (prs_mem (by decide) (by decide)) (by decide) rfl rfl rfl dX12_doneBy_70 ?_
      refine j_bndi (fun x6_6 => ?_)
      refine j_istore (lv2 := [(6, .int x6_6), (0, .ref (ad 11 0)), (1, .int x1), (2, .int x2), (3, .int x3), (4, .int x4), (5, .int x5)]) 71 dX12_doneBy_71 (by decide) rfl ?_
      refine j_aload_n 73 1 dX12_doneBy_73 rfl rfl ?_
      refine j_getr (c2 := 74) (n2 := 0) 74 30 nX12_doneBy_X12 rfl (by decide) (prs_mem (by decide) (by decide)) (by decide) (by decide) wX12_doneBy_f73 (Or.inl rfl) rfl rfl rfl dX12_doneBy_74 ?_
      refine j_iload 77 6 dX12_doneBy_77 rfl ?_
      refine j_aload_n 79 1 dX12_doneBy_79 rfl rfl ?_
      refine j_getr (c2 := 74) (n2 := 0) 80 30 nX12_doneBy_X12 rfl (by decide) (prs_mem (by decide) (by decide)) (by decide) (by decide) wX12_doneBy_f73 (Or.inl rfl) rfl rfl rfl dX12_doneBy_80 ?_
      refine j_bipush (v := 8) 83 dX12_doneBy_83 (by decide) ?_
      refine j_iload 85 6 dX12_doneBy_85 rfl ?_
      refine j_iadd 87 dX12_doneBy_87 ?_
      refine j_iald (c := 74) (n := 0) (L := 16) 88 (prs_mem (by decide) (by decide)) (by decide) rfl rfl rfl dX12_doneBy_88 ?_
      refine j_iast (c := 74) (n := 0) (L := 16) 89 (prs_mem (by decide) (by decide)) (by decide) rfl rfl rfl dX12_doneBy_89 (j_bs (fun S_7 => ?_))
      refine j_iload 90 5 dX12_doneBy_90 rfl ?_
      refine j_aload_n 92 1 dX12_doneBy_92 rfl rfl ?_
      refine j_iload_n 93 2 dX12_doneBy_93 rfl rfl ?_
      refine j_iload_n 94 3 dX12_doneBy_94 rfl rfl ?_
      refine j_iload_n 95 4 dX12_doneBy_95 rfl rfl ?_
      refine j_callV_pi 96 rfl (by decide) (prs_mem (by decide) (by decide))  [.int x1, .int x2, .int x3] [.int x4] gX12_doneBy_X12_isUnlike rfl eX12_isUnlike ⟨Nat.le_of_ble_eq_true rfl, Nat.le_of_ble_eq_true rfl⟩ rfl rfl (Nat.le_of_ble_eq_true rfl) dX12_doneBy_96 (kX12_isUnlike F S_7 x1 x2 x3) (fun b_8 γ => ?_)
      refine j_if_eq 99 106 dX12_doneBy_99 (by decide) (fun _ => ?_) (fun _ => ?_)
      · refine j_iconst (v := 1) 106 dX12_doneBy_106 (by decide) ?_
        refine j_iload 107 6 dX12_doneBy_107 rfl ?_
        refine j_ishl 109 dX12_doneBy_109 ?_
        refine j_sub [1, 2, 3, 4, 6, 0] rfl ?_
        exact tX12_doneBy_j110 X _ F S_7 x1 x2 x3 x5 x6_6 ((1 : Int32) <<< (x5 &&& 31)) x4 _ ih
      · refine j_iconst (v := 0) 102 dX12_doneBy_102 (by decide) ?_
        refine j_goto 103 110 dX12_doneBy_103 (by decide) ?_
        refine j_sub [1, 2, 3, 4, 6, 0] rfl ?_
        exact tX12_doneBy_j110 X _ F S_7 x1 x2 x3 x5 x6_6 0 x4 _ ih
set_option maxRecDepth 100000 in
set_option maxHeartbeats 4000000 in
theorem tX12_doneBy {ad : Nat → Nat → Nat} (X : Ctx) (γ : Nat → Nat) (F : Nat) (S : St) (p1 : Int32) (p2 : Int32) (p3 : Int32) : JJ X ad γ (RQm X ad 4 101 outei) (fcm outei) 4 101 cX12_doneBy 7 RX12 wsX12_doneBy (some .int) (fX12_doneBy F S p1 p2 p3) S 0 [(0, .ref (ad 11 0)), (1, .int p1), (2, .int p2), (3, .int p3)] [] := by
  unfold fX12_doneBy
  refine j_iload_n 0 1 dX12_doneBy_0 rfl rfl ?_
  refine j_i2l 1 dX12_doneBy_1 ?_
  refine j_lconst (v := 0) 2 dX12_doneBy_2 (by decide) ?_
  refine j_ldc2 (v := 35) 3 dX12_doneBy_3 wX12_doneBy_c170 ?_
  refine j_callS_pi 6  [.long p1.toInt64, .long 0, .long 35] [] gX12_doneBy_X12_in rfl eX12_in ⟨Nat.le_of_ble_eq_true rfl, Nat.le_of_ble_eq_true rfl⟩ rfl rfl (Nat.le_of_ble_eq_true rfl) dX12_doneBy_6 (kX12_in S p1.toInt64 0 35) (fun b_1 γ => ?_)
  refine j_if_eq 9 31 dX12_doneBy_9 (by decide) (fun _ => ?_) (fun _ => ?_)
  · refine j_iconst (v := (-1)) 31 dX12_doneBy_31 (by decide) ?_
    exact j_iret 32 rfl dX12_doneBy_32
  · refine j_iload_n 12 2 dX12_doneBy_12 rfl rfl ?_
    refine j_callS_pi 13  [.int p2] [] gX12_doneBy_X12_isYear rfl eX12_isYear ⟨Nat.le_of_ble_eq_true rfl, Nat.le_of_ble_eq_true rfl⟩ rfl rfl (Nat.le_of_ble_eq_true rfl) dX12_doneBy_13 (kX12_isYear S p2) (fun b_2 γ => ?_)
    refine j_if_eq 16 31 dX12_doneBy_16 (by decide) (fun _ => ?_) (fun _ => ?_)
    · refine j_iconst (v := (-1)) 31 dX12_doneBy_31 (by decide) ?_
      exact j_iret 32 rfl dX12_doneBy_32
    · refine j_iload_n 19 3 dX12_doneBy_19 rfl rfl ?_
      refine j_i2l 20 dX12_doneBy_20 ?_
      refine j_lconst (v := 0) 21 dX12_doneBy_21 (by decide) ?_
      refine j_ldc2 (v := 255) 22 dX12_doneBy_22 wX12_doneBy_c114 ?_
      refine j_callS_pi 25  [.long p3.toInt64, .long 0, .long 255] [] gX12_doneBy_X12_in rfl eX12_in ⟨Nat.le_of_ble_eq_true rfl, Nat.le_of_ble_eq_true rfl⟩ rfl rfl (Nat.le_of_ble_eq_true rfl) dX12_doneBy_25 (kX12_in S p3.toInt64 0 255) (fun b_3 γ => ?_)
      refine j_if_ne 28 33 dX12_doneBy_28 (by decide) (fun _ => ?_) (fun _ => ?_)
      · refine j_aload_n 33 0 dX12_doneBy_33 rfl rfl ?_
        refine j_iload_n 34 2 dX12_doneBy_34 rfl rfl ?_
        refine j_callV_ev 35 rfl (by decide) (prs_mem (by decide) (by decide))  [.int p2] [] gX12_doneBy_X12_layWords rfl eX12_layWords ⟨Nat.le_of_ble_eq_true rfl, Nat.le_of_ble_eq_true rfl⟩ rfl rfl (Nat.le_of_ble_eq_true rfl) dX12_doneBy_35 (kX12_layWords F S p2) (fun b_4 γ => ?_)
        refine j_aload_n 38 0 dX12_doneBy_38 rfl rfl ?_
        refine j_iload_n 39 1 dX12_doneBy_39 rfl rfl ?_
        refine j_iload_n 40 2 dX12_doneBy_40 rfl rfl ?_
        refine j_iload_n 41 3 dX12_doneBy_41 rfl rfl ?_
        refine j_callV_pi 42 rfl (by decide) (prs_mem (by decide) (by decide))  [.int p1, .int p2, .int p3] [] gX12_doneBy_X12_isUnlike rfl eX12_isUnlike ⟨Nat.le_of_ble_eq_true rfl, Nat.le_of_ble_eq_true rfl⟩ rfl rfl (Nat.le_of_ble_eq_true rfl) dX12_doneBy_42 (kX12_isUnlike F b_4 p1 p2 p3) (fun b_5 γ => ?_)
        refine j_if_ne 45 51 dX12_doneBy_45 (by decide) (fun _ => ?_) (fun _ => ?_)
        · refine j_iconst (v := 0) 51 dX12_doneBy_51 (by decide) ?_
          refine j_istore (lv2 := [(4, .int 0), (0, .ref (ad 11 0)), (1, .int p1), (2, .int p2), (3, .int p3)]) 52 dX12_doneBy_52 (by decide) rfl ?_
          refine j_iconst (v := 0) 54 dX12_doneBy_54 (by decide) ?_
          refine j_istore (lv2 := [(5, .int 0), (4, .int 0), (0, .ref (ad 11 0)), (1, .int p1), (2, .int p2), (3, .int p3)]) 55 dX12_doneBy_55 (by decide) rfl ?_
          refine j_sub [2, 3, 4, 5, 1, 0] rfl ?_
          exact tX12_doneBy_L57 X F p1 p2 p3 F _ 0 0 b_4
        · refine j_bipush (v := (-2)) 48 dX12_doneBy_48 (by decide) ?_
          exact j_iret 50 rfl dX12_doneBy_50
      · refine j_iconst (v := (-1)) 31 dX12_doneBy_31 (by decide) ?_
        exact j_iret 32 rfl dX12_doneBy_32
set_option maxRecDepth 100000 in
set_option maxHeartbeats 4000000 in
theorem kX12_doneBy {ad : Nat → Nat → Nat} (F : Nat) (S : St) (p1 : Int32) (p2 : Int32) (p3 : Int32) : ∀ b, fX12_doneBy F S p1 p2 p3 = some b → ∀ l dC dI cy, CT l dC dI cy ad yX12_doneBy wsX12_doneBy 4 101 [.ref (ad 11 0), .int p1, .int p2, .int p3] S (some (.int b.1)) b.2 :=
  fun b hb l dC dI cy => ct_of (l := l) (dC := dC) (dI := dI) (cy := cy) outei (by decide) rfl (Nat.le_of_ble_eq_true rfl) rfl (fun X γ => tX12_doneBy X γ F S p1 p2 p3) b hb
-- X12_isPerson
theorem nX12_isPerson_X12 : ∀ w ∈ u_ws RX12 TX12 40, w ∈ wsX12_isPerson := by decide +kernel
theorem wX12_isPerson_f175 : Cond.fieldLink RX12 175 "TwoTonguesModel" "personMany" "I" ∈ wsX12_isPerson := by decide +kernel
set_option maxRecDepth 100000 in
set_option maxHeartbeats 4000000 in
theorem tX12_isPerson {ad : Nat → Nat → Nat} (X : Ctx) (γ : Nat → Nat) (S : St) (p1 : Int32) : JJ X ad γ (RQm X ad 1 25 (outpi S)) (fcm (outpi S)) 1 25 cX12_isPerson 2 RX12 wsX12_isPerson (some .boolean) (fX12_isPerson S p1) S 0 [(0, .ref (ad 11 0)), (1, .int p1)] [] := by
  unfold fX12_isPerson
  refine j_iload_n 0 1 dX12_isPerson_0 rfl rfl ?_
  refine j_i2l 1 dX12_isPerson_1 ?_
  refine j_lconst (v := 0) 2 dX12_isPerson_2 (by decide) ?_
  refine j_aload_n 3 0 dX12_isPerson_3 rfl rfl ?_
  refine j_geti 4 6 nX12_isPerson_X12 rfl (by decide) (prs_mem (by decide) (by decide)) (by decide) (by decide) wX12_isPerson_f175 (Or.inl rfl) rfl dX12_isPerson_4 ?_
  refine j_iconst (v := 1) 7 dX12_isPerson_7 (by decide) ?_
  refine j_isub 8 dX12_isPerson_8 ?_
  refine j_i2l 9 dX12_isPerson_9 ?_
  refine j_callS_pi 10  [.long p1.toInt64, .long 0, .long ((gI S 11 0 6) - 1).toInt64] [] gX12_isPerson_X12_in rfl eX12_in ⟨Nat.le_of_ble_eq_true rfl, Nat.le_of_ble_eq_true rfl⟩ rfl rfl (Nat.le_of_ble_eq_true rfl) dX12_isPerson_10 (kX12_in S p1.toInt64 0 ((gI S 11 0 6) - 1).toInt64) (fun b_1 γ => ?_)
  refine j_gd (fun hz => ?_)
  exact j_zret 13 (isB_nar hz) rfl dX12_isPerson_13
set_option maxRecDepth 100000 in
set_option maxHeartbeats 4000000 in
theorem kX12_isPerson {ad : Nat → Nat → Nat} (S : St) (p1 : Int32) : ∀ b, fX12_isPerson S p1 = some b → ∀ l dC dI cy, CT l dC dI cy ad yX12_isPerson wsX12_isPerson 1 25 [.ref (ad 11 0), .int p1] S (some (.int b)) S :=
  fun b hb l dC dI cy => ct_of (l := l) (dC := dC) (dI := dI) (cy := cy) (outpi S) (by decide) rfl (Nat.le_of_ble_eq_true rfl) rfl (fun X γ => tX12_isPerson X γ S p1) b hb
-- X12_isKin
theorem wX12_isKin_c178 : Cond.constantLong RX12 178 (9) ∈ wsX12_isKin := by decide +kernel
set_option maxRecDepth 100000 in
set_option maxHeartbeats 4000000 in
theorem tX12_isKin {ad : Nat → Nat → Nat} (X : Ctx) (γ : Nat → Nat) (S : St) (p0 : Int32) : JJ X ad γ (RQm X ad 1 25 (outpi S)) (fcm (outpi S)) 1 25 cX12_isKin 1 RX12 wsX12_isKin (some .boolean) (fX12_isKin S p0) S 0 [(0, .int p0)] [] := by
  unfold fX12_isKin
  refine j_iload_n 0 0 dX12_isKin_0 rfl rfl ?_
  refine j_i2l 1 dX12_isKin_1 ?_
  refine j_lconst (v := 0) 2 dX12_isKin_2 (by decide) ?_
  refine j_ldc2 (v := 9) 3 dX12_isKin_3 wX12_isKin_c178 ?_
  refine j_callS_pi 6  [.long p0.toInt64, .long 0, .long 9] [] gX12_isKin_X12_in rfl eX12_in ⟨Nat.le_of_ble_eq_true rfl, Nat.le_of_ble_eq_true rfl⟩ rfl rfl (Nat.le_of_ble_eq_true rfl) dX12_isKin_6 (kX12_in S p0.toInt64 0 9) (fun b_1 γ => ?_)
  refine j_gd (fun hz => ?_)
  exact j_zret 9 (isB_nar hz) rfl dX12_isKin_9
set_option maxRecDepth 100000 in
set_option maxHeartbeats 4000000 in
theorem kX12_isKin {ad : Nat → Nat → Nat} (S : St) (p0 : Int32) : ∀ b, fX12_isKin S p0 = some b → ∀ l dC dI cy, CT l dC dI cy ad yX12_isKin wsX12_isKin 1 25 [.int p0] S (some (.int b)) S :=
  fun b hb l dC dI cy => ct_of (l := l) (dC := dC) (dI := dI) (cy := cy) (outpi S) (by decide) rfl (Nat.le_of_ble_eq_true rfl) rfl (fun X γ => tX12_isKin X γ S p0) b hb
-- X12_person
theorem nX12_person_X12 : ∀ w ∈ u_ws RX12 TX12 40, w ∈ wsX12_person := by decide +kernel
theorem wX12_person_f175 : Cond.fieldLink RX12 175 "TwoTonguesModel" "personMany" "I" ∈ wsX12_person := by decide +kernel
theorem wX12_person_f28 : Cond.fieldLink RX12 28 "TwoTonguesModel" "born" "[I" ∈ wsX12_person := by decide +kernel
theorem wX12_person_f31 : Cond.fieldLink RX12 31 "TwoTonguesModel" "parents" "[I" ∈ wsX12_person := by decide +kernel
theorem wX12_person_f34 : Cond.fieldLink RX12 34 "TwoTonguesModel" "dies" "[I" ∈ wsX12_person := by decide +kernel
theorem wX12_person_c183 : Cond.constant RX12 183 (1000000) ∈ wsX12_person := by decide +kernel
theorem wX12_person_f37 : Cond.fieldLink RX12 37 "TwoTonguesModel" "founds" "[I" ∈ wsX12_person := by decide +kernel
set_option maxRecDepth 100000 in
set_option maxHeartbeats 4000000 in
theorem tX12_person_j52 {ad : Nat → Nat → Nat} (X : Ctx) (γ : Nat → Nat) (S : St) (x1 : Int32) (x2 : Int32) (x3 : Int32)   : JJ X ad γ (RQm X ad 2 46 outei) (fcm outei) 2 46 cX12_person 5 RX12 wsX12_person (some .int) (fX12_person_j52 S x1 x2 x3) S 52 [(0, .ref (ad 11 0)), (1, .int x1), (2, .int x2), (3, .int x3)] [] := by
  unfold fX12_person_j52
  refine j_aload_n 52 0 dX12_person_52 rfl rfl ?_
  refine j_geti 53 6 nX12_person_X12 rfl (by decide) (prs_mem (by decide) (by decide)) (by decide) (by decide) wX12_person_f175 (Or.inl rfl) rfl dX12_person_53 ?_
  refine j_bipush (v := 30) 56 dX12_person_56 (by decide) ?_
  refine j_icmp_ne 58 64 dX12_person_58 (by decide) (fun _ => ?_) (fun _ => ?_)
  · refine j_aload_n 64 0 dX12_person_64 rfl rfl ?_
    refine j_getr (c2 := 59) (n2 := 0) 65 7 nX12_person_X12 rfl (by decide) (prs_mem (by decide) (by decide)) (by decide) (by decide) wX12_person_f28 (Or.inl rfl) rfl rfl rfl dX12_person_65 ?_
    refine j_aload_n 68 0 dX12_person_68 rfl rfl ?_
    refine j_geti 69 6 nX12_person_X12 rfl (by decide) (prs_mem (by decide) (by decide)) (by decide) (by decide) wX12_person_f175 (Or.inl rfl) rfl dX12_person_69 ?_
    refine j_iload_n 72 1 dX12_person_72 rfl rfl ?_
    refine j_iast (c := 59) (n := 0) (L := 30) 73 (prs_mem (by decide) (by decide)) (by decide) rfl rfl rfl dX12_person_73 (j_bs (fun S_2 => ?_))
    refine j_aload_n 74 0 dX12_person_74 rfl rfl ?_
    refine j_getr (c2 := 60) (n2 := 0) 75 8 nX12_person_X12 rfl (by decide) (prs_mem (by decide) (by decide)) (by decide) (by decide) wX12_person_f31 (Or.inl rfl) rfl rfl rfl dX12_person_75 ?_
    refine j_iconst (v := 2) 78 dX12_person_78 (by decide) ?_
    refine j_aload_n 79 0 dX12_person_79 rfl rfl ?_
    refine j_geti 80 6 nX12_person_X12 rfl (by decide) (prs_mem (by decide) (by decide)) (by decide) (by decide) wX12_person_f175 (Or.inl rfl) rfl dX12_person_80 ?_
    refine j_imul 83 dX12_person_83 ?_
    refine j_iload_n 84 2 dX12_person_84 rfl rfl ?_
    refine j_iast (c := 60) (n := 0) (L := 60) 85 (prs_mem (by decide) (by decide)) (by decide) rfl rfl rfl dX12_person_85 (j_bs (fun S_3 => ?_))
    refine j_aload_n 86 0 dX12_person_86 rfl rfl ?_
    refine j_getr (c2 := 60) (n2 := 0) 87 8 nX12_person_X12 rfl (by decide) (prs_mem (by decide) (by decide)) (by decide) (by decide) wX12_person_f31 (Or.inl rfl) rfl rfl rfl dX12_person_87 ?_
    refine j_iconst (v := 2) 90 dX12_person_90 (by decide) ?_
    refine j_aload_n 91 0 dX12_person_91 rfl rfl ?_
    refine j_geti 92 6 nX12_person_X12 rfl (by decide) (prs_mem (by decide) (by decide)) (by decide) (by decide) wX12_person_f175 (Or.inl rfl) rfl dX12_person_92 ?_
    refine j_imul 95 dX12_person_95 ?_
    refine j_iconst (v := 1) 96 dX12_person_96 (by decide) ?_
    refine j_iadd 97 dX12_person_97 ?_
    refine j_iload_n 98 3 dX12_person_98 rfl rfl ?_
    refine j_iast (c := 60) (n := 0) (L := 60) 99 (prs_mem (by decide) (by decide)) (by decide) rfl rfl rfl dX12_person_99 (j_bs (fun S_4 => ?_))
    refine j_aload_n 100 0 dX12_person_100 rfl rfl ?_
    refine j_getr (c2 := 61) (n2 := 0) 101 9 nX12_person_X12 rfl (by decide) (prs_mem (by decide) (by decide)) (by decide) (by decide) wX12_person_f34 (Or.inl rfl) rfl rfl rfl dX12_person_101 ?_
    refine j_aload_n 104 0 dX12_person_104 rfl rfl ?_
    refine j_geti 105 6 nX12_person_X12 rfl (by decide) (prs_mem (by decide) (by decide)) (by decide) (by decide) wX12_person_f175 (Or.inl rfl) rfl dX12_person_105 ?_
    refine j_ldc (v := 1000000) 108 dX12_person_108 wX12_person_c183 ?_
    refine j_iast (c := 61) (n := 0) (L := 30) 110 (prs_mem (by decide) (by decide)) (by decide) rfl rfl rfl dX12_person_110 (j_bs (fun S_5 => ?_))
    refine j_aload_n 111 0 dX12_person_111 rfl rfl ?_
    refine j_getr (c2 := 62) (n2 := 0) 112 10 nX12_person_X12 rfl (by decide) (prs_mem (by decide) (by decide)) (by decide) (by decide) wX12_person_f37 (Or.inl rfl) rfl rfl rfl dX12_person_112 ?_
    refine j_aload_n 115 0 dX12_person_115 rfl rfl ?_
    refine j_geti 116 6 nX12_person_X12 rfl (by decide) (prs_mem (by decide) (by decide)) (by decide) (by decide) wX12_person_f175 (Or.inl rfl) rfl dX12_person_116 ?_
    refine j_iconst (v := 0) 119 dX12_person_119 (by decide) ?_
    refine j_iast (c := 62) (n := 0) (L := 30) 120 (prs_mem (by decide) (by decide)) (by decide) rfl rfl rfl dX12_person_120 (j_bs (fun S_6 => ?_))
    refine j_aload_n 121 0 dX12_person_121 rfl rfl ?_
    refine j_dup 122 dX12_person_122 rfl ?_
    refine j_geti 123 6 nX12_person_X12 rfl (by decide) (prs_mem (by decide) (by decide)) (by decide) (by decide) wX12_person_f175 (Or.inl rfl) rfl dX12_person_123 ?_
    refine j_iconst (v := 1) 126 dX12_person_126 (by decide) ?_
    refine j_iadd 127 dX12_person_127 ?_
    refine j_puti 128 6 nX12_person_X12 rfl (by decide) (prs_mem (by decide) (by decide)) (by decide) (by decide) wX12_person_f175 (Or.inl rfl) tyX12 tyX12_ok nmX12 rfl (by decide) rfl dX12_person_128 (j_bs (fun S_7 => ?_))
    refine j_aload_n 131 0 dX12_person_131 rfl rfl ?_
    refine j_geti 132 6 nX12_person_X12 rfl (by decide) (prs_mem (by decide) (by decide)) (by decide) (by decide) wX12_person_f175 (Or.inl rfl) rfl dX12_person_132 ?_
    refine j_iconst (v := 1) 135 dX12_person_135 (by decide) ?_
    refine j_isub 136 dX12_person_136 ?_
    exact j_iret 137 rfl dX12_person_137
  · refine j_bipush (v := (-3)) 61 dX12_person_61 (by decide) ?_
    exact j_iret 63 rfl dX12_person_63
set_option maxRecDepth 100000 in
set_option maxHeartbeats 4000000 in
theorem tX12_person_j15 {ad : Nat → Nat → Nat} (X : Ctx) (γ : Nat → Nat) (S : St) (x1 : Int32) (x2 : Int32) (x3 : Int32) (s0 : Int32)   : JJ X ad γ (RQm X ad 2 46 outei) (fcm outei) 2 46 cX12_person 5 RX12 wsX12_person (some .int) (fX12_person_j15 S x1 x2 x3 s0) S 15 [(0, .ref (ad 11 0)), (1, .int x1), (2, .int x2), (3, .int x3)] [.int s0] := by
  unfold fX12_person_j15
  refine j_istore (lv2 := [(4, .int s0), (0, .ref (ad 11 0)), (1, .int x1), (2, .int x2), (3, .int x3)]) 15 dX12_person_15 (by decide) rfl ?_
  refine j_iload_n 17 2 dX12_person_17 rfl rfl ?_
  refine j_callS_pi 18  [.int x1] [] gX12_person_X12_isYear rfl eX12_isYear ⟨Nat.le_of_ble_eq_true rfl, Nat.le_of_ble_eq_true rfl⟩ rfl rfl (Nat.le_of_ble_eq_true rfl) dX12_person_18 (kX12_isYear S x1) (fun b_1 γ => ?_)
  refine j_if_eq 21 50 dX12_person_21 (by decide) (fun _ => ?_) (fun _ => ?_)
  · refine j_iconst (v := (-1)) 50 dX12_person_50 (by decide) ?_
    exact j_iret 51 rfl dX12_person_51
  · refine j_iload 24 0 dX12_person_24 rfl ?_
    refine j_if_ne 26 52 dX12_person_26 (by decide) (fun _ => ?_) (fun _ => ?_)
    · refine j_sub [1, 2, 3, 4] rfl ?_
      exact tX12_person_j52 X _ S x1 x2 x3
    · refine j_aload_n 29 1 dX12_person_29 rfl rfl ?_
      refine j_iload_n 30 3 dX12_person_30 rfl rfl ?_
      refine j_callV_pi 31 rfl (by decide) (prs_mem (by decide) (by decide))  [.int x2] [] gX12_person_X12_isPerson rfl eX12_isPerson ⟨Nat.le_of_ble_eq_true rfl, Nat.le_of_ble_eq_true rfl⟩ rfl rfl (Nat.le_of_ble_eq_true rfl) dX12_person_31 (kX12_isPerson S x2) (fun b_8 γ => ?_)
      refine j_if_eq 34 50 dX12_person_34 (by decide) (fun _ => ?_) (fun _ => ?_)
      · refine j_iconst (v := (-1)) 50 dX12_person_50 (by decide) ?_
        exact j_iret 51 rfl dX12_person_51
      · refine j_aload_n 37 1 dX12_person_37 rfl rfl ?_
        refine j_iload_n 38 4 dX12_person_38 rfl rfl ?_
        refine j_callV_pi 39 rfl (by decide) (prs_mem (by decide) (by decide))  [.int x3] [] gX12_person_X12_isPerson rfl eX12_isPerson ⟨Nat.le_of_ble_eq_true rfl, Nat.le_of_ble_eq_true rfl⟩ rfl rfl (Nat.le_of_ble_eq_true rfl) dX12_person_39 (kX12_isPerson S x3) (fun b_9 γ => ?_)
        refine j_if_eq 42 50 dX12_person_42 (by decide) (fun _ => ?_) (fun _ => ?_)
        · refine j_iconst (v := (-1)) 50 dX12_person_50 (by decide) ?_
          exact j_iret 51 rfl dX12_person_51
        · refine j_iload_n 45 3 dX12_person_45 rfl rfl ?_
          refine j_iload_n 46 4 dX12_person_46 rfl rfl ?_
          refine j_icmp_ne 47 52 dX12_person_47 (by decide) (fun _ => ?_) (fun _ => ?_)
          · refine j_sub [1, 2, 3, 4] rfl ?_
            exact tX12_person_j52 X _ S x1 x2 x3
          · refine j_iconst (v := (-1)) 50 dX12_person_50 (by decide) ?_
            exact j_iret 51 rfl dX12_person_51
set_option maxRecDepth 100000 in
set_option maxHeartbeats 4000000 in
theorem tX12_person_j14 {ad : Nat → Nat → Nat} (X : Ctx) (γ : Nat → Nat) (S : St) (x1 : Int32) (x2 : Int32) (x3 : Int32)   : JJ X ad γ (RQm X ad 2 46 outei) (fcm outei) 2 46 cX12_person 5 RX12 wsX12_person (some .int) (fX12_person_j14 S x1 x2 x3) S 14 [(0, .ref (ad 11 0)), (1, .int x1), (2, .int x2), (3, .int x3)] [] := by
  unfold fX12_person_j14
  refine j_iconst (v := 0) 14 dX12_person_14 (by decide) ?_
  exact tX12_person_j15 X _ S x1 x2 x3 0
set_option maxRecDepth 100000 in
set_option maxHeartbeats 4000000 in
theorem tX12_person {ad : Nat → Nat → Nat} (X : Ctx) (γ : Nat → Nat) (S : St) (p1 : Int32) (p2 : Int32) (p3 : Int32) : JJ X ad γ (RQm X ad 2 46 outei) (fcm outei) 2 46 cX12_person 5 RX12 wsX12_person (some .int) (fX12_person S p1 p2 p3) S 0 [(0, .ref (ad 11 0)), (1, .int p1), (2, .int p2), (3, .int p3)] [] := by
  unfold fX12_person
  refine j_iload_n 0 2 dX12_person_0 rfl rfl ?_
  refine j_iconst (v := (-1)) 1 dX12_person_1 (by decide) ?_
  refine j_icmp_ne 2 14 dX12_person_2 (by decide) (fun _ => ?_) (fun _ => ?_)
  · exact tX12_person_j14 X _ S p1 p2 p3
  · refine j_iload_n 5 3 dX12_person_5 rfl rfl ?_
    refine j_iconst (v := (-1)) 6 dX12_person_6 (by decide) ?_
    refine j_icmp_ne 7 14 dX12_person_7 (by decide) (fun _ => ?_) (fun _ => ?_)
    · exact tX12_person_j14 X _ S p1 p2 p3
    · refine j_iconst (v := 1) 10 dX12_person_10 (by decide) ?_
      refine j_goto 11 15 dX12_person_11 (by decide) ?_
      exact tX12_person_j15 X _ S p1 p2 p3 1
set_option maxRecDepth 100000 in
set_option maxHeartbeats 4000000 in
theorem kX12_person {ad : Nat → Nat → Nat} (S : St) (p1 : Int32) (p2 : Int32) (p3 : Int32) : ∀ b, fX12_person S p1 p2 p3 = some b → ∀ l dC dI cy, CT l dC dI cy ad yX12_person wsX12_person 2 46 [.ref (ad 11 0), .int p1, .int p2, .int p3] S (some (.int b.1)) b.2 :=
  fun b hb l dC dI cy => ct_of (l := l) (dC := dC) (dI := dI) (cy := cy) outei (by decide) rfl (Nat.le_of_ble_eq_true rfl) rfl (fun X γ => tX12_person X γ S p1 p2 p3) b hb
