-- X0_add
def fX0_add (S : St) (p1 : Int32) (p2 : Int32) (p3 : Int32) (p4 : Int32) (p5 : Int32) (p6 : Int32) : Option (Int32 × St) :=
  if (gI S 0 0 6) < 9 then
    gd (ix (gI S 0 0 6) 9) <|
    bnd (pA S 12 0 (gI S 0 0 6).toNatClampNeg p1) fun S_1 =>
    gd (ix (gI S_1 0 0 6) 9) <|
    bnd (pA S_1 13 0 (gI S_1 0 0 6).toNatClampNeg p2) fun S_2 =>
    gd (ix (gI S_2 0 0 6) 9) <|
    bnd (pA S_2 14 0 (gI S_2 0 0 6).toNatClampNeg p3) fun S_3 =>
    gd (ix (gI S_3 0 0 6) 9) <|
    bnd (pA S_3 15 0 (gI S_3 0 0 6).toNatClampNeg p4) fun S_4 =>
    gd (ix (gI S_4 0 0 6) 9) <|
    bnd (pA S_4 16 0 (gI S_4 0 0 6).toNatClampNeg p5) fun S_5 =>
    gd (ix (gI S_5 0 0 6) 9) <|
    bnd (pA S_5 17 0 (gI S_5 0 0 6).toNatClampNeg p6) fun S_6 =>
    bnd (pI S_6 0 0 6 ((gI S_6 0 0 6) + 1)) fun S_7 =>
    some ((gI S_7 0 0 6) - 1, S_7)
  else
    some ((-3), S)
-- X0_everyOne
def fX0_everyOne (S : St) : Option Int32 :=
  some (((1 : Int32) <<< ((gI S 0 0 6) &&& 31)) - 1)
-- X0_foundedBy
def fX0_foundedBy_b4 (F : Nat) (S : St) (x1 : Int32) (rec : Int32 → Int32 → Option Int32) (x2 : Int32) (x3 : Int32) : Option Int32 :=
  if (gI S 0 0 6) ≤ x3 then
    some x2
  else
    gd (ix x3 9) <|
    if ((gA S 16 0 x3.toNatClampNeg) &&& (x1 ^^^ (-1))) = 0 then
      bnd (x2 ||| ((1 : Int32) <<< (x3 &&& 31))) fun x2_1 =>
      rec x2_1 (x3 + 1)
    else
      rec x2 (x3 + 1)
def fX0_foundedBy_L4 (F : Nat) (S : St) (x1 : Int32) : Nat → Int32 → Int32 → Option Int32
  | 0, _, _ => none
  | n + 1, x2, x3 => fX0_foundedBy_b4 F S x1 (fX0_foundedBy_L4 F S x1 n) x2 x3
def fX0_foundedBy (F : Nat) (S : St) (p1 : Int32) : Option Int32 :=
  fX0_foundedBy_L4 F S p1
    F 0 0
-- X0_allWeights
def fX0_allWeights_b4 (F : Nat) (S : St) (rec : Int32 → Int32 → Option Int32) (x1 : Int32) (x2 : Int32) : Option Int32 :=
  if (gI S 0 0 6) ≤ x2 then
    some x1
  else
    gd (ix x2 9) <|
    bnd (x1 + (gA S 13 0 x2.toNatClampNeg)) fun x1_1 =>
    rec x1_1 (x2 + 1)
def fX0_allWeights_L4 (F : Nat) (S : St) : Nat → Int32 → Int32 → Option Int32
  | 0, _, _ => none
  | n + 1, x1, x2 => fX0_allWeights_b4 F S (fX0_allWeights_L4 F S n) x1 x2
def fX0_allWeights (F : Nat) (S : St) : Option Int32 :=
  fX0_allWeights_L4 F S
    F 0 0
-- J7_fill_d0a16
def fJ7_fill_d0a16_b6 (F : Nat) (y1 : Int64) (x4 : Int32) (rec : Int32 → St → Option St) (x3 : Int32) (S : St) : Option St :=
  if x4 ≤ x3 then
    some S
  else
    gd (ix x3 30) <|
    bnd (pB S 18 0 x3.toNatClampNeg y1) fun S_2 =>
    rec (x3 + 1) S_2
def fJ7_fill_d0a16_L6 (F : Nat) (y1 : Int64) (x4 : Int32) : Nat → Int32 → St → Option St
  | 0, _, _ => none
  | n + 1, x3, S => fJ7_fill_d0a16_b6 F y1 x4 (fJ7_fill_d0a16_L6 F y1 x4 n) x3 S
def fJ7_fill_d0a16 (F : Nat) (S : St) (p1 : Int64) : Option St :=
  bnd (Int32.ofNat 30) fun x4_1 =>
  fJ7_fill_d0a16_L6 F p1 x4_1
    F 0 S
-- X11_hasBit
def fX11_hasBit (S : St) (p0 : Int32) (p1 : Int32) : Option Int32 :=
  if ((p0 >>> (p1 &&& 31)) &&& 1) = 1 then
    some 1
  else
    some 0
-- X7_isFounder
def fX7_isFounder (S : St) (p1 : Int32) (p2 : Int32) : Option Int32 :=
  gd (ix p1 30) <|
  cal (fX11_hasBit S (gA S 38 0 p1.toNatClampNeg) p2) fun b_1 =>
  gd (isB b_1) <|
  some b_1
-- X7_isDead
def fX7_isDead (S : St) (p1 : Int32) (p2 : Int32) : Option Int32 :=
  gd (ix p1 30) <|
  if p2 < (gA S 35 0 p1.toNatClampNeg) then
    some 0
  else
    some 1
-- X7_isLivingFounder
def fX7_isLivingFounder (S : St) (p1 : Int32) (p2 : Int32) (p3 : Int32) : Option Int32 :=
  cal (fX7_isFounder S p1 p2) fun b_1 =>
  if b_1 = 0 then
    some 0
  else
    gd (ix p1 30) <|
    if p3 < (gA S 34 0 p1.toNatClampNeg) then
      some 0
    else
      cal (fX7_isDead S p1 p3) fun b_2 =>
      if b_2 = 0 then
        some 1
      else
        some 0
-- X7_livingFounders
def fX7_livingFounders_b5 (F : Nat) (S : St) (x1 : Int32) (x2 : Int32) (rec : Int32 → Int32 → Option Int32) (x3 : Int32) (x4 : Int32) : Option Int32 :=
  if (gI S 6 0 6) ≤ x4 then
    some x3
  else
    cal (fX7_isLivingFounder S x4 x1 x2) fun b_1 =>
    if b_1 = 0 then
      rec x3 (x4 + 1)
    else
      rec (x3 + 1) (x4 + 1)
def fX7_livingFounders_L5 (F : Nat) (S : St) (x1 : Int32) (x2 : Int32) : Nat → Int32 → Int32 → Option Int32
  | 0, _, _ => none
  | n + 1, x3, x4 => fX7_livingFounders_b5 F S x1 x2 (fX7_livingFounders_L5 F S x1 x2 n) x3 x4
def fX7_livingFounders (F : Nat) (S : St) (p1 : Int32) (p2 : Int32) : Option Int32 :=
  fX7_livingFounders_L5 F S p1 p2
    F 0 0
-- X1_open
def fX1_open_b41 (F : Nat) (x1 : Int32) (x2 : Int32) (y4 : Int64) (rec : Int32 → St → Option St) (x6 : Int32) (S : St) : Option St :=
  if (gI S 6 0 6) ≤ x6 then
    some S
  else
    cal (fX7_isLivingFounder S x6 x1 x2) fun b_5 =>
    if b_5 = 0 then
      rec (x6 + 1) S
    else
      gd (ix x6 30) <|
      bnd (pB S 18 0 x6.toNatClampNeg y4) fun S_6 =>
      bnd (pJ S_6 1 0 2 ((gJ S_6 1 0 2) - y4)) fun S_7 =>
      rec (x6 + 1) S_7
def fX1_open_L41 (F : Nat) (x1 : Int32) (x2 : Int32) (y4 : Int64) : Nat → Int32 → St → Option St
  | 0, _, _ => none
  | n + 1, x6, S => fX1_open_b41 F x1 x2 y4 (fX1_open_L41 F x1 x2 y4 n) x6 S
def fX1_open (F : Nat) (S : St) (p1 : Int32) (p2 : Int32) : Option St :=
  cal (fJ7_fill_d0a16 F S 0) fun b_1 =>
  bnd (pJ b_1 1 0 2 1000000000000) fun S_2 =>
  cal (fX7_livingFounders F S_2 p1 p2) fun b_3 =>
  if b_3 = 0 then
    some S_2
  else
    gd (!(decide (b_3.toInt64 = (0 : Int64)))) <|
    bnd (1000000000000 / b_3.toInt64) fun y4_4 =>
    fX1_open_L41 F p1 p2 y4_4
      F 0 S_2
-- J7_fill_53178
def fJ7_fill_53178_b5 (F : Nat) (x1 : Int32) (x3 : Int32) (rec : Int32 → St → Option St) (x2 : Int32) (S : St) : Option St :=
  if x3 ≤ x2 then
    some S
  else
    gd (ix x2 30) <|
    bnd (pA S 81 0 x2.toNatClampNeg x1) fun S_2 =>
    rec (x2 + 1) S_2
def fJ7_fill_53178_L5 (F : Nat) (x1 : Int32) (x3 : Int32) : Nat → Int32 → St → Option St
  | 0, _, _ => none
  | n + 1, x2, S => fJ7_fill_53178_b5 F x1 x3 (fJ7_fill_53178_L5 F x1 x3 n) x2 S
def fJ7_fill_53178 (F : Nat) (S : St) (p1 : Int32) : Option St :=
  bnd (Int32.ofNat 30) fun x3_1 =>
  fJ7_fill_53178_L5 F p1 x3_1
    F 0 S
-- X1_send
def fX1_send_b11 (F : Nat) (S : St) (x1 : Int32) (y2 : Int64) (y4 : Int64) (k37 : Int32 → Option St) (k65 : Option St) (rec : Int32 → Int32 → Option St) (x6 : Int32) (x7 : Int32) : Option St :=
  if (gI S 1 0 7) ≤ x7 then
    k65
  else
    if x6 < 0 then
      k65
    else
      gd (ix x6 (gC S)) <|
      if (lg_cmp (gB S 83 0 x6.toNatClampNeg) y2) = 0 then
        k37 x6
      else
        gd (ix x6 (gC S)) <|
        bnd (gA S 82 0 x6.toNatClampNeg) fun x6_2 =>
        rec x6_2 (x7 + 1)
def fX1_send_L11 (F : Nat) (S : St) (x1 : Int32) (y2 : Int64) (y4 : Int64) (k37 : Int32 → Option St) (k65 : Option St) : Nat → Int32 → Int32 → Option St
  | 0, _, _ => none
  | n + 1, x6, x7 => fX1_send_b11 F S x1 y2 y4 k37 k65 (fX1_send_L11 F S x1 y2 y4 k37 k65 n) x6 x7
def fX1_send_j65 (F : Nat) (S : St) (x1 : Int32) (y2 : Int64) (y4 : Int64) : Option St :=
  cal (fX1_makeRoom S) fun b_5 =>
  if (Int32.ofNat (gC b_5)) ≤ (gI b_5 1 0 7) then
    some b_5
  else
    gd (ix x1 30) <|
    gd (ix (gI b_5 1 0 7) (gC b_5)) <|
    bnd (pA b_5 82 0 (gI b_5 1 0 7).toNatClampNeg (gA b_5 81 0 x1.toNatClampNeg)) fun S_6 =>
    gd (ix (gI S_6 1 0 7) (gC S_6)) <|
    bnd (pB S_6 83 0 (gI S_6 1 0 7).toNatClampNeg y2) fun S_7 =>
    gd (ix (gI S_7 1 0 7) (gC S_7)) <|
    bnd (pB S_7 84 0 (gI S_7 1 0 7).toNatClampNeg y4) fun S_8 =>
    gd (ix x1 30) <|
    bnd (pA S_8 81 0 x1.toNatClampNeg (gI S_8 1 0 7)) fun S_9 =>
    bnd (pI S_9 1 0 7 ((gI S_9 1 0 7) + 1)) fun S_10 =>
    some S_10
def fX1_send (F : Nat) (S : St) (p1 : Int32) (p2 : Int64) (p4 : Int64) : Option St :=
  gd (ix p1 30) <|
  bnd (gA S 81 0 p1.toNatClampNeg) fun x6_1 =>
  fX1_send_L11 F S p1 p2 p4
    (fun x6_3 =>
      gd (ix x6_3 (gC S)) <|
      gd (ix x6_3 (gC S)) <|
      bnd (pB S 84 0 x6_3.toNatClampNeg ((gB S 84 0 x6_3.toNatClampNeg) + p4)) fun S_4 =>
      some S_4
    )
    (
      fX1_send_j65 F S p1 p2 p4
    )
    F x6_1 0
-- X7_isChild
def fX7_isChild_j20 (S : St) (x1 : Int32) (x3 : Int32) : Option Int32 :=
  gd (ix x1 30) <|
  if x3 < (gA S 34 0 x1.toNatClampNeg) then
    some 0
  else
    some 1
def fX7_isChild (S : St) (p1 : Int32) (p2 : Int32) (p3 : Int32) : Option Int32 :=
  gd (ix p1 30) <|
  if (gA S 36 0 p1.toNatClampNeg) = p2 then
    fX7_isChild_j20 S p1 p3
  else
    gd (ix p1 30) <|
    if (gA S 37 0 p1.toNatClampNeg) = p2 then
      fX7_isChild_j20 S p1 p3
    else
      some 0
-- X7_children
def fX7_children_b5 (F : Nat) (S : St) (x1 : Int32) (x2 : Int32) (rec : Int32 → Int32 → Option Int32) (x3 : Int32) (x4 : Int32) : Option Int32 :=
  if (gI S 6 0 6) ≤ x4 then
    some x3
  else
    cal (fX7_isChild S x4 x1 x2) fun b_1 =>
    if b_1 = 0 then
      rec x3 (x4 + 1)
    else
      rec (x3 + 1) (x4 + 1)
def fX7_children_L5 (F : Nat) (S : St) (x1 : Int32) (x2 : Int32) : Nat → Int32 → Int32 → Option Int32
  | 0, _, _ => none
  | n + 1, x3, x4 => fX7_children_b5 F S x1 x2 (fX7_children_L5 F S x1 x2 n) x3 x4
def fX7_children (F : Nat) (S : St) (p1 : Int32) (p2 : Int32) : Option Int32 :=
  fX7_children_L5 F S p1 p2
    F 0 0
-- X1_cut
def fX1_cut_j40 (F : Nat) (S : St) (x2 : Int32) (x3 : Int32) (x4 : Int32) (s0 : Int64) (rec : Int32 → Int32 → St → Option St) : Option St :=
  gd (ix x3 (gC S)) <|
  gd (ix x3 (gC S)) <|
  bnd (pJ S 1 0 2 ((gJ S 1 0 2) + (((gB S 83 0 x3.toNatClampNeg) - (s0 * x2.toInt64)) * (gB S 84 0 x3.toNatClampNeg)))) fun S_2 =>
  gd (ix x3 (gC S_2)) <|
  bnd (pB S_2 83 0 x3.toNatClampNeg s0) fun S_3 =>
  gd (ix x3 (gC S_3)) <|
  bnd (gA S_3 82 0 x3.toNatClampNeg) fun x3_4 =>
  rec x3_4 (x4 + 1) S_3
def fX1_cut_b10 (F : Nat) (x2 : Int32) (rec : Int32 → Int32 → St → Option St) (x3 : Int32) (x4 : Int32) (S : St) : Option St :=
  if (gI S 1 0 7) ≤ x4 then
    some S
  else
    if x3 < 0 then
      some S
    else
      if x2 = 0 then
        fX1_cut_j40 F S x2 x3 x4 0 rec
      else
        gd (ix x3 (gC S)) <|
        gd (!(decide (x2.toInt64 = (0 : Int64)))) <|
        fX1_cut_j40 F S x2 x3 x4 ((gB S 83 0 x3.toNatClampNeg) / x2.toInt64) rec
def fX1_cut_L10 (F : Nat) (x2 : Int32) : Nat → Int32 → Int32 → St → Option St
  | 0, _, _, _ => none
  | n + 1, x3, x4, S => fX1_cut_b10 F x2 (fX1_cut_L10 F x2 n) x3 x4 S
def fX1_cut (F : Nat) (S : St) (p1 : Int32) (p2 : Int32) : Option St :=
  gd (ix p1 30) <|
  bnd (gA S 81 0 p1.toNatClampNeg) fun x3_1 =>
  fX1_cut_L10 F p2
    F x3_1 0 S
-- X1_sendAll
def fX1_sendAll_b16 (F : Nat) (x2 : Int32) (x3 : Int32) (rec : Int32 → Int32 → St → Option St) (x4 : Int32) (x5 : Int32) (S : St) : Option St :=
  if x3 ≤ x5 then
    some S
  else
    if x4 < 0 then
      some S
    else
      gd (ix x4 (gC S)) <|
      gd (ix x4 (gC S)) <|
      cal (fX1_send F S x2 (gB S 83 0 x4.toNatClampNeg) (gB S 84 0 x4.toNatClampNeg)) fun b_3 =>
      gd (ix x4 (gC b_3)) <|
      bnd (gA b_3 82 0 x4.toNatClampNeg) fun x4_4 =>
      rec x4_4 (x5 + 1) b_3
def fX1_sendAll_L16 (F : Nat) (x2 : Int32) (x3 : Int32) : Nat → Int32 → Int32 → St → Option St
  | 0, _, _, _ => none
  | n + 1, x4, x5, S => fX1_sendAll_b16 F x2 x3 (fX1_sendAll_L16 F x2 x3 n) x4 x5 S
def fX1_sendAll (F : Nat) (S : St) (p1 : Int32) (p2 : Int32) : Option St :=
  bnd (gI S 1 0 7) fun x3_1 =>
  gd (ix p1 30) <|
  bnd (gA S 81 0 p1.toNatClampNeg) fun x4_2 =>
  fX1_sendAll_L16 F p2 x3_1
    F x4_2 0 S
-- X1_handOn
def fX1_handOn_b4 (F : Nat) (x1 : Int32) (x2 : Int32) (rec : Int32 → St → Option St) (x3 : Int32) (S : St) : Option St :=
  if (gI S 6 0 6) ≤ x3 then
    some S
  else
    cal (fX7_isChild S x3 x1 x2) fun b_2 =>
    if b_2 = 0 then
      rec (x3 + 1) S
    else
      cal (fX1_sendAll F S x1 x3) fun b_3 =>
      rec (x3 + 1) b_3
def fX1_handOn_L4 (F : Nat) (x1 : Int32) (x2 : Int32) : Nat → Int32 → St → Option St
  | 0, _, _ => none
  | n + 1, x3, S => fX1_handOn_b4 F x1 x2 (fX1_handOn_L4 F x1 x2 n) x3 S
def fX1_handOn (F : Nat) (S : St) (p1 : Int32) (p2 : Int32) : Option St :=
  bnd (p1 + 1) fun x3_1 =>
  fX1_handOn_L4 F p1 p2
    F x3_1 S
-- X1_keep
def fX1_keep_b9 (F : Nat) (x1 : Int32) (rec : Int32 → Int32 → St → Option St) (x2 : Int32) (x3 : Int32) (S : St) : Option St :=
  if (gI S 1 0 7) ≤ x3 then
    some S
  else
    if x2 < 0 then
      some S
    else
      gd (ix x1 30) <|
      gd (ix x2 (gC S)) <|
      gd (ix x2 (gC S)) <|
      gd (ix x1 30) <|
      bnd (pB S 18 0 x1.toNatClampNeg ((gB S 18 0 x1.toNatClampNeg) + ((gB S 83 0 x2.toNatClampNeg) * (gB S 84 0 x2.toNatClampNeg)))) fun S_2 =>
      gd (ix x2 (gC S_2)) <|
      bnd (gA S_2 82 0 x2.toNatClampNeg) fun x2_3 =>
      rec x2_3 (x3 + 1) S_2
def fX1_keep_L9 (F : Nat) (x1 : Int32) : Nat → Int32 → Int32 → St → Option St
  | 0, _, _, _ => none
  | n + 1, x2, x3, S => fX1_keep_b9 F x1 (fX1_keep_L9 F x1 n) x2 x3 S
def fX1_keep (F : Nat) (S : St) (p1 : Int32) : Option St :=
  gd (ix p1 30) <|
  bnd (gA S 81 0 p1.toNatClampNeg) fun x2_1 =>
  fX1_keep_L9 F p1
    F x2_1 0 S
-- X1_inherit
def fX1_inherit_b34 (F : Nat) (x2 : Int32) (rec : Int32 → St → Option St) (x3 : Int32) (S : St) : Option St :=
  if (gI S 6 0 6) ≤ x3 then
    some S
  else
    cal (fX7_isDead S x3 x2) fun b_5 =>
    if b_5 = 0 then
      cal (fX1_keep F S x3) fun b_9 =>
      rec (x3 + 1) b_9
    else
      gd (ix x3 30) <|
      if (gA S 81 0 x3.toNatClampNeg) < 0 then
        rec (x3 + 1) S
      else
        cal (fX7_children F S x3 x2) fun b_6 =>
        cal (fX1_cut F S x3 b_6) fun b_7 =>
        cal (fX1_handOn F b_7 x3 x2) fun b_8 =>
        rec (x3 + 1) b_8
def fX1_inherit_L34 (F : Nat) (x2 : Int32) : Nat → Int32 → St → Option St
  | 0, _, _ => none
  | n + 1, x3, S => fX1_inherit_b34 F x2 (fX1_inherit_L34 F x2 n) x3 S
def fX1_inherit (F : Nat) (S : St) (p1 : Int32) (p2 : Int32) : Option St :=
  bnd (pI S 1 0 7 0) fun S_1 =>
  cal (fJ7_fill_53178 F S_1 (-1)) fun b_2 =>
  gd (ix p1 30) <|
  cal (fX1_send F b_2 p1 (gB b_2 18 0 p1.toNatClampNeg) 1) fun b_3 =>
  gd (ix p1 30) <|
  bnd (pB b_3 18 0 p1.toNatClampNeg 0) fun S_4 =>
  fX1_inherit_L34 F p2
    F p1 S_4
-- X1_pass
def fX1_pass_b2 (F : Nat) (x1 : Int32) (rec : Int32 → St → Option St) (x2 : Int32) (S : St) : Option St :=
  if (gI S 6 0 6) ≤ x2 then
    some S
  else
    gd (ix x2 30) <|
    if (gA S 35 0 x2.toNatClampNeg) = x1 then
      gd (ix x2 30) <|
      if (lg_cmp (gB S 18 0 x2.toNatClampNeg) 0) ≤ 0 then
        rec (x2 + 1) S
      else
        cal (fX1_inherit F S x2 x1) fun b_1 =>
        rec (x2 + 1) b_1
    else
      rec (x2 + 1) S
def fX1_pass_L2 (F : Nat) (x1 : Int32) : Nat → Int32 → St → Option St
  | 0, _, _ => none
  | n + 1, x2, S => fX1_pass_b2 F x1 (fX1_pass_L2 F x1 n) x2 S
def fX1_pass (F : Nat) (S : St) (p1 : Int32) : Option St :=
  fX1_pass_L2 F p1
    F 0 S
-- X1_hasLessThanOneOf
def fX1_hasLessThanOneOf_b2 (F : Nat) (S : St) (x1 : Int32) (rec : Int32 → Option Int32) (x2 : Int32) : Option Int32 :=
  if (gI S 6 0 6) ≤ x2 then
    some 0
  else
    gd (ix x2 30) <|
    if (lg_cmp (gB S 18 0 x2.toNatClampNeg) 0) ≤ 0 then
      rec (x2 + 1)
    else
      gd (ix x2 30) <|
      if 0 ≤ (lg_cmp ((gB S 18 0 x2.toNatClampNeg) * x1.toInt64) 1000000000000) then
        rec (x2 + 1)
      else
        some 1
def fX1_hasLessThanOneOf_L2 (F : Nat) (S : St) (x1 : Int32) : Nat → Int32 → Option Int32
  | 0, _ => none
  | n + 1, x2 => fX1_hasLessThanOneOf_b2 F S x1 (fX1_hasLessThanOneOf_L2 F S x1 n) x2
def fX1_hasLessThanOneOf (F : Nat) (S : St) (p1 : Int32) : Option Int32 :=
  fX1_hasLessThanOneOf_L2 F S p1
    F 0
-- X2_lengthOf
def fX2_lengthOf (S : St) (p1 : Int32) : Option Int32 :=
  gd (ix p1 9) <|
  some (gA S 15 0 p1.toNatClampNeg)
-- X5_lengthOfAll_h
def fX5_lengthOfAll_h_b4 (F : Nat) (S : St) (x1 : Int32) (rec : Int32 → Int32 → Option Int32) (x2 : Int32) (x3 : Int32) : Option Int32 :=
  if (gI S 0 0 6) ≤ x3 then
    some x2
  else
    cal (fX11_hasBit S x1 x3) fun b_1 =>
    if b_1 = 0 then
      rec x2 (x3 + 1)
    else
      cal (fX2_lengthOf S x3) fun b_2 =>
      bnd (x2 + b_2) fun x2_3 =>
      rec x2_3 (x3 + 1)
def fX5_lengthOfAll_h_L4 (F : Nat) (S : St) (x1 : Int32) : Nat → Int32 → Int32 → Option Int32
  | 0, _, _ => none
  | n + 1, x2, x3 => fX5_lengthOfAll_h_b4 F S x1 (fX5_lengthOfAll_h_L4 F S x1 n) x2 x3
def fX5_lengthOfAll_h (F : Nat) (S : St) (p1 : Int32) : Option Int32 :=
  fX5_lengthOfAll_h_L4 F S p1
    F 0 0
-- X2_priceOf
def fX2_priceOf (S : St) (p1 : Int32) (p2 : Int32) : Option Int32 :=
  gd (ix p1 9) <|
  cal (fX7_isDead S (gA S 14 0 p1.toNatClampNeg) (((gI S 2 0 4) + p2) - 1)) fun b_1 =>
  if b_1 = 0 then
    some 0
  else
    gd (ix p1 9) <|
    some (gA S 13 0 p1.toNatClampNeg)
-- X5_restWith_h
def fX5_restWith_h (S : St) (p1 : Int32) (p2 : Int32) (p3 : Int32) : Option Int32 :=
  cal (fX2_lengthOf S p1) fun b_1 =>
  cal (fX2_priceOf S p1 (p3 + b_1)) fun b_2 =>
  gd (ix (p2 ||| ((1 : Int32) <<< (p1 &&& 31))) 512) <|
  some (b_2 + (gA S 19 0 (p2 ||| ((1 : Int32) <<< (p1 &&& 31))).toNatClampNeg))
-- X5_cheapestRest_h
def fX5_cheapestRest_h_b24 (F : Nat) (S : St) (x1 : Int32) (x3 : Int32) (rec : Int32 → Int32 → Option Int32) (x2 : Int32) (x4 : Int32) : Option Int32 :=
  if (gI S 0 0 6) ≤ x4 then
    some x2
  else
    cal (fX11_hasBit S ((gI S 2 0 2) &&& (x1 ^^^ (-1))) x4) fun b_2 =>
    if b_2 = 0 then
      rec x2 (x4 + 1)
    else
      cal (fX5_restWith_h S x4 x1 x3) fun b_3 =>
      bnd (if b_3 < x2 then b_3 else x2) fun x2_4 =>
      rec x2_4 (x4 + 1)
def fX5_cheapestRest_h_L24 (F : Nat) (S : St) (x1 : Int32) (x3 : Int32) : Nat → Int32 → Int32 → Option Int32
  | 0, _, _ => none
  | n + 1, x2, x4 => fX5_cheapestRest_h_b24 F S x1 x3 (fX5_cheapestRest_h_L24 F S x1 x3 n) x2 x4
def fX5_cheapestRest_h_j14 (F : Nat) (S : St) (x1 : Int32) (s0 : Int32) : Option Int32 :=
  cal (fX5_lengthOfAll_h F S x1) fun b_1 =>
  fX5_cheapestRest_h_L24 F S x1 b_1
    F s0 0
def fX5_cheapestRest_h (F : Nat) (S : St) (p1 : Int32) : Option Int32 :=
  if p1 = (gI S 2 0 2) then
    fX5_cheapestRest_h_j14 F S p1 0
  else
    fX5_cheapestRest_h_j14 F S p1 1000000000
-- X5_arrange_h
def fX5_arrange_h_b18 (F : Nat) (k50 : St → Option (Int32 × St)) (rec : Int32 → St → Option (Int32 × St)) (x2 : Int32) (S : St) : Option (Int32 × St) :=
  if x2 < 0 then
    k50 S
  else
    if (x2 &&& ((gI S 2 0 2) ^^^ (-1))) = 0 then
      cal (fX5_cheapestRest_h F S x2) fun b_4 =>
      gd (ix x2 512) <|
      bnd (pA S 19 0 x2.toNatClampNeg b_4) fun S_5 =>
      rec (x2 + (-1)) S_5
    else
      rec (x2 + (-1)) S
def fX5_arrange_h_L18 (F : Nat) (k50 : St → Option (Int32 × St)) : Nat → Int32 → St → Option (Int32 × St)
  | 0, _, _ => none
  | n + 1, x2, S => fX5_arrange_h_b18 F k50 (fX5_arrange_h_L18 F k50 n) x2 S
def fX5_arrange_h (F : Nat) (S : St) (p1 : Int32) : Option (Int32 × St) :=
  cal (fX0_everyOne S) fun b_1 =>
  bnd (pI S 2 0 2 (p1 &&& b_1)) fun S_2 =>
  bnd (gI S_2 2 0 2) fun x2_3 =>
  fX5_arrange_h_L18 F
    (fun S_6 =>
      gd (ix 0 512) <|
      some (gA S_6 19 0 (0 : Int32).toNatClampNeg, S_6)
    )
    F x2_3 S_2
-- X2_arrangeFrom
def fX2_arrangeFrom (F : Nat) (S : St) (p1 : Int32) : Option (Int32 × St) :=
  bnd (pI S 2 0 4 p1) fun S_1 =>
  cal (fX0_everyOne S_1) fun b_2 =>
  cal (fX5_arrange_h F S_1 b_2) fun b_3 =>
  some (b_3.1, b_3.2)
-- X3_isBook
def fX3_isBook (S : St) (t : Nat) : Option Int32 :=
  gd (decide (t < 70)) <|
  if (gI S 3 t 0) = 119 then
    some 1
  else
    some 0
-- X3_fill
def fX3_fill (S : St) (t : Nat) (p1 : Int32) (m2 : Nat) : Option St :=
  gd (decide (t < 70)) <|
  gd (decide (m2 < 2)) <|
  bnd (pI S 3 t 0 p1) fun S_1 =>
  gd (ix 0 5) <|
  bnd (pI S_1 3 t 1 (gA S_1 47 m2 (0 : Int32).toNatClampNeg)) fun S_2 =>
  cal (fX3_isBook S_2 t) fun b_3 =>
  if b_3 = 0 then
    gd (ix 1 5) <|
    bnd (pI S_2 3 t 2 (gA S_2 47 m2 (1 : Int32).toNatClampNeg)) fun S_4 =>
    gd (ix 2 5) <|
    bnd (pI S_4 3 t 3 (gA S_4 47 m2 (2 : Int32).toNatClampNeg)) fun S_5 =>
    gd (ix 3 5) <|
    bnd (pI S_5 3 t 4 (gA S_5 47 m2 (3 : Int32).toNatClampNeg)) fun S_6 =>
    gd (ix 4 5) <|
    bnd (pI S_6 3 t 5 (gA S_6 47 m2 (4 : Int32).toNatClampNeg)) fun S_7 =>
    some S_7
  else
    bnd (pI S_2 3 t 2 0) fun S_8 =>
    gd (ix 1 5) <|
    bnd (pI S_8 3 t 3 (gA S_8 47 m2 (1 : Int32).toNatClampNeg)) fun S_9 =>
    bnd (pI S_9 3 t 4 200) fun S_10 =>
    gd (ix 2 5) <|
    bnd (pI S_10 3 t 5 (gA S_10 47 m2 (2 : Int32).toNatClampNeg)) fun S_11 =>
    some S_11
-- X11_within
def fX11_within (S : St) (p0 : Int32) (p1 : Int32) (p2 : Int32) : Option Int32 :=
  if p0 < p1 then
    some 0
  else
    if p2 < p0 then
      some 0
    else
      some 1
-- X11_isWord
def fX11_isWord (S : St) (p0 : Int32) : Option Int32 :=
  cal (fX11_within S p0 0 7) fun b_1 =>
  gd (isB b_1) <|
  some b_1
-- X11_isThing
def fX11_isThing (S : St) (p0 : Int32) : Option Int32 :=
  cal (fX11_within S p0 0 5) fun b_1 =>
  gd (isB b_1) <|
  some b_1
-- X11_isYear
def fX11_isYear (S : St) (p0 : Int32) : Option Int32 :=
  cal (fX11_within S p0 0 200) fun b_1 =>
  gd (isB b_1) <|
  some b_1
-- X3_isInBounds
def fX3_isInBounds_j15 (S : St) (t : Nat) (s0 : Int32) : Option Int32 :=
  cal (fX11_isWord S (gI S 3 t 1)) fun b_2 =>
  if b_2 = 0 then
    some 0
  else
    cal (fX11_isThing S (gI S 3 t 2)) fun b_3 =>
    if b_3 = 0 then
      some 0
    else
      cal (fX11_isYear S (gI S 3 t 4)) fun b_4 =>
      if b_4 = 0 then
        some 0
      else
        if (gI S 3 t 4) < (gI S 3 t 3) then
          some 0
        else
          if s0 ≤ (gI S 3 t 5) then
            some 0
          else
            some 1
def fX3_isInBounds (S : St) (t : Nat) : Option Int32 :=
  gd (decide (t < 70)) <|
  cal (fX3_isBook S t) fun b_1 =>
  if b_1 = 0 then
    fX3_isInBounds_j15 S t 256
  else
    fX3_isInBounds_j15 S t 64
-- X3_speaksOf
def fX3_speaksOf (S : St) (t : Nat) (p1 : Int32) (p2 : Int32) : Option Int32 :=
  gd (decide (t < 70)) <|
  cal (fX3_isBook S t) fun b_1 =>
  if b_1 = 0 then
    if (gI S 3 t 2) = p1 then
      cal (fX11_within S p2 (gI S 3 t 3) (gI S 3 t 4)) fun b_2 =>
      if b_2 = 0 then
        some 0
      else
        some 1
    else
      some 0
  else
    some 0
-- X4_has
def fX4_has (S : St) (p1 : Int32) : Option Int32 :=
  cal (fX11_within S p1 0 ((gI S 4 0 3) - 1)) fun b_1 =>
  gd (isB b_1) <|
  some b_1
-- X4_addBlock
def fX4_addBlock (S : St) (p1 : Int32) : Option (Int32 × St) :=
  if (gI S 4 0 3) < 12 then
    gd (ix (gI S 4 0 3) 12) <|
    bnd (pA S 20 0 (gI S 4 0 3).toNatClampNeg p1) fun S_1 =>
    gd (ix (gI S_1 4 0 3) 12) <|
    bnd (pA S_1 22 0 (gI S_1 4 0 3).toNatClampNeg (-1)) fun S_2 =>
    bnd (pI S_2 4 0 3 ((gI S_2 4 0 3) + 1)) fun S_3 =>
    some ((gI S_3 4 0 3) - 1, S_3)
  else
    some ((-3), S)
-- X4_addHolding
def fX4_addHolding (S : St) (p1 : Int32) (p2 : Int32) (p3 : Int32) (p4 : Int32) : Option (Int32 × St) :=
  if (gI S 4 0 8) < 60 then
    gd (ix (gI S 4 0 8) 60) <|
    bnd (pA S 23 0 (gI S 4 0 8).toNatClampNeg p1) fun S_1 =>
    gd (ix (gI S_1 4 0 8) 60) <|
    bnd (pA S_1 24 0 (gI S_1 4 0 8).toNatClampNeg (p2 &&& 1)) fun S_2 =>
    gd (ix (gI S_2 4 0 8) 60) <|
    bnd (pA S_2 25 0 (gI S_2 4 0 8).toNatClampNeg p3) fun S_3 =>
    gd (ix (gI S_3 4 0 8) 60) <|
    bnd (pA S_3 26 0 (gI S_3 4 0 8).toNatClampNeg p4) fun S_4 =>
    bnd (pI S_4 4 0 8 ((gI S_4 4 0 8) + 1)) fun S_5 =>
    some (gI S_5 4 0 8, S_5)
  else
    some ((-3), S)
-- X4_holderIn
def fX4_holderIn_j46 (F : Nat) (S : St) (x1 : Int32) (x2 : Int32) (x3 : Int32) (x5 : Int32) (x6 : Int32) (x7 : Int32) (s0 : Int32) (rec : Int32 → Int32 → Int32 → Option Int32) : Option Int32 :=
  if s0 = 0 then
    rec x5 x6 (x7 + 1)
  else
    gd (ix x7 60) <|
    cal (fX11_within S (gA S 26 0 x7.toNatClampNeg) x6 x3) fun b_1 =>
    if b_1 = 0 then
      rec x5 x6 (x7 + 1)
    else
      gd (ix x7 60) <|
      bnd (gA S 26 0 x7.toNatClampNeg) fun x6_2 =>
      gd (ix x7 60) <|
      bnd (gA S 25 0 x7.toNatClampNeg) fun x5_3 =>
      rec x5_3 x6_2 (x7 + 1)
def fX4_holderIn_j45 (F : Nat) (S : St) (x1 : Int32) (x2 : Int32) (x3 : Int32) (x5 : Int32) (x6 : Int32) (x7 : Int32) (rec : Int32 → Int32 → Int32 → Option Int32) : Option Int32 :=
  fX4_holderIn_j46 F S x1 x2 x3 x5 x6 x7 0 rec
def fX4_holderIn_b10 (F : Nat) (S : St) (x1 : Int32) (x2 : Int32) (x3 : Int32) (rec : Int32 → Int32 → Int32 → Option Int32) (x5 : Int32) (x6 : Int32) (x7 : Int32) : Option Int32 :=
  if (gI S 4 0 8) ≤ x7 then
    some x5
  else
    gd (ix x7 60) <|
    if (gA S 23 0 x7.toNatClampNeg) = x1 then
      gd (ix x7 60) <|
      if (gA S 24 0 x7.toNatClampNeg) = x2 then
        fX4_holderIn_j46 F S x1 x2 x3 x5 x6 x7 1 rec
      else
        fX4_holderIn_j45 F S x1 x2 x3 x5 x6 x7 rec
    else
      fX4_holderIn_j45 F S x1 x2 x3 x5 x6 x7 rec
def fX4_holderIn_L10 (F : Nat) (S : St) (x1 : Int32) (x2 : Int32) (x3 : Int32) : Nat → Int32 → Int32 → Int32 → Option Int32
  | 0, _, _, _ => none
  | n + 1, x5, x6, x7 => fX4_holderIn_b10 F S x1 x2 x3 (fX4_holderIn_L10 F S x1 x2 x3 n) x5 x6 x7
def fX4_holderIn (F : Nat) (S : St) (p1 : Int32) (p2 : Int32) (p3 : Int32) (p4 : Int32) : Option Int32 :=
  fX4_holderIn_L10 F S p1 p2 p3
    F p4 0 0
-- X4_ownerOf
def fX4_ownerOf (F : Nat) (S : St) (p1 : Int32) (p2 : Int32) : Option Int32 :=
  cal (fX4_holderIn F S p1 0 p2 (-1)) fun b_1 =>
  some b_1
-- X4_usersOf
def fX4_usersOf (F : Nat) (S : St) (p1 : Int32) (p2 : Int32) : Option Int32 :=
  cal (fX4_holderIn F S p1 1 p2 0) fun b_1 =>
  some b_1
-- X4_addDeed
def fX4_addDeed (S : St) (p1 : Int32) (p2 : Int32) (p3 : Int32) : Option (Int32 × St) :=
  if (gI S 4 0 12) < 20 then
    gd (ix (gI S 4 0 12) 20) <|
    bnd (pA S 27 0 (gI S 4 0 12).toNatClampNeg p1) fun S_1 =>
    gd (ix (gI S_1 4 0 12) 20) <|
    bnd (pA S_1 28 0 (gI S_1 4 0 12).toNatClampNeg p2) fun S_2 =>
    gd (ix (gI S_2 4 0 12) 20) <|
    bnd (pA S_2 29 0 (gI S_2 4 0 12).toNatClampNeg p3) fun S_3 =>
    bnd (pI S_3 4 0 12 ((gI S_3 4 0 12) + 1)) fun S_4 =>
    some ((gI S_4 4 0 12) - 1, S_4)
  else
    some ((-3), S)
-- X4_rightOfSeller
def fX4_rightOfSeller_j68 (F : Nat) (S : St) (x2 : Int32) (x3 : Int32) (x4 : Int32) : Option Int32 :=
  if x4 = 0 then
    cal (fX11_hasBit S x3 x2) fun b_4 =>
    if b_4 = 0 then
      some 0
    else
      some 1
  else
    some 1
def fX4_rightOfSeller_j49 (F : Nat) (S : St) (x2 : Int32) (x3 : Int32) (s0 : Int32) : Option Int32 :=
  if s0 = 0 then
    fX4_rightOfSeller_j68 F S x2 x3 s0
  else
    if (x3 &&& (((1 : Int32) <<< (x2 &&& 31)) ^^^ (-1))) = 0 then
      some 2
    else
      fX4_rightOfSeller_j68 F S x2 x3 s0
def fX4_rightOfSeller (F : Nat) (S : St) (p1 : Int32) : Option Int32 :=
  gd (ix p1 20) <|
  bnd (gA S 28 0 p1.toNatClampNeg) fun x2_1 =>
  gd (ix p1 20) <|
  gd (ix p1 20) <|
  cal (fX4_usersOf F S (gA S 27 0 p1.toNatClampNeg) (gA S 29 0 p1.toNatClampNeg)) fun b_2 =>
  gd (ix p1 20) <|
  gd (ix p1 20) <|
  cal (fX4_ownerOf F S (gA S 27 0 p1.toNatClampNeg) (gA S 29 0 p1.toNatClampNeg)) fun b_3 =>
  if b_3 = x2_1 then
    fX4_rightOfSeller_j49 F S x2_1 b_2 1
  else
    fX4_rightOfSeller_j49 F S x2_1 b_2 0
-- X4_firstSoldTwice
def fX4_firstSoldTwice_b4 (F : Nat) (S : St) (x1 : Int32) (k46 : Int32 → Int32 → Option Int32) (rec : Int32 → Int32 → Option Int32) (x2 : Int32) (x3 : Int32) : Option Int32 :=
  if (gI S 4 0 12) ≤ x3 then
    some (-4)
  else
    gd (ix x3 20) <|
    if (gA S 27 0 x3.toNatClampNeg) = x1 then
      if 0 ≤ x2 then
        gd (ix x3 20) <|
        gd (ix x2 20) <|
        if (gA S 28 0 x3.toNatClampNeg) = (gA S 28 0 x2.toNatClampNeg) then
          rec x2 (x3 + 1)
        else
          k46 x2 x3
      else
        rec x3 (x3 + 1)
    else
      rec x2 (x3 + 1)
def fX4_firstSoldTwice_L4 (F : Nat) (S : St) (x1 : Int32) (k46 : Int32 → Int32 → Option Int32) : Nat → Int32 → Int32 → Option Int32
  | 0, _, _ => none
  | n + 1, x2, x3 => fX4_firstSoldTwice_b4 F S x1 k46 (fX4_firstSoldTwice_L4 F S x1 k46 n) x2 x3
def fX4_firstSoldTwice (F : Nat) (S : St) (p1 : Int32) : Option Int32 :=
  fX4_firstSoldTwice_L4 F S p1
    (fun x2_1 x3_2 =>
      some (((100 : Int32) * x2_1) + x3_2)
    )
    F (-1) 0
-- X4_addTaking
def fX4_addTaking (S : St) (p1 : Int32) (p2 : Int32) (p3 : Int32) : Option (Int32 × St) :=
  if (gI S 4 0 16) < 12 then
    gd (ix (gI S 4 0 16) 12) <|
    bnd (pA S 30 0 (gI S 4 0 16).toNatClampNeg p1) fun S_1 =>
    gd (ix (gI S_1 4 0 16) 12) <|
    bnd (pA S_1 31 0 (gI S_1 4 0 16).toNatClampNeg p2) fun S_2 =>
    gd (ix (gI S_2 4 0 16) 12) <|
    bnd (pA S_2 32 0 (gI S_2 4 0 16).toNatClampNeg p3) fun S_3 =>
    bnd (pI S_3 4 0 16 ((gI S_3 4 0 16) + 1)) fun S_4 =>
    some ((gI S_4 4 0 16) - 1, S_4)
  else
    some ((-3), S)
-- X4_wrongedBy
def fX4_wrongedBy_j41 (F : Nat) (S : St) (x1 : Int32) (s0 : Int32) (s1 : Int32) : Option Int32 :=
  bnd (s1 ||| s0) fun x4_4 =>
  gd (ix x1 12) <|
  some (x4_4 &&& (((1 : Int32) <<< ((gA S 31 0 x1.toNatClampNeg) &&& 31)) ^^^ (-1)))
def fX4_wrongedBy (F : Nat) (S : St) (p1 : Int32) : Option Int32 :=
  gd (ix p1 12) <|
  bnd (gA S 30 0 p1.toNatClampNeg) fun x2_1 =>
  gd (ix p1 12) <|
  cal (fX4_ownerOf F S x2_1 (gA S 32 0 p1.toNatClampNeg)) fun b_2 =>
  gd (ix p1 12) <|
  cal (fX4_usersOf F S x2_1 (gA S 32 0 p1.toNatClampNeg)) fun b_3 =>
  if 0 ≤ b_2 then
    fX4_wrongedBy_j41 F S p1 ((1 : Int32) <<< (b_2 &&& 31)) b_3
  else
    fX4_wrongedBy_j41 F S p1 0 b_3
-- X4_wrongedByAll
def fX4_wrongedByAll_b4 (F : Nat) (S : St) (x1 : Int32) (rec : Int32 → Int32 → Option Int32) (x2 : Int32) (x3 : Int32) : Option Int32 :=
  if (gI S 4 0 16) ≤ x3 then
    some x2
  else
    gd (ix x3 12) <|
    if (gA S 30 0 x3.toNatClampNeg) = x1 then
      cal (fX4_wrongedBy F S x3) fun b_1 =>
      bnd (x2 ||| b_1) fun x2_2 =>
      rec x2_2 (x3 + 1)
    else
      rec x2 (x3 + 1)
def fX4_wrongedByAll_L4 (F : Nat) (S : St) (x1 : Int32) : Nat → Int32 → Int32 → Option Int32
  | 0, _, _ => none
  | n + 1, x2, x3 => fX4_wrongedByAll_b4 F S x1 (fX4_wrongedByAll_L4 F S x1 n) x2 x3
def fX4_wrongedByAll (F : Nat) (S : St) (p1 : Int32) : Option Int32 :=
  fX4_wrongedByAll_L4 F S p1
    F 0 0
-- X4_worthLeft
def fX4_worthLeft_j49 (F : Nat) (S : St) (x1 : Int32) (x2 : Int32) (x3 : Int32) (x4 : Int32) (x5 : Int32) (s0 : Int32) (rec : Int32 → Int32 → Option Int32) : Option Int32 :=
  if s0 = 0 then
    rec x4 (x5 + 1)
  else
    cal (fX4_ownerOf F S x5 x2) fun b_3 =>
    if 0 ≤ b_3 then
      rec x4 (x5 + 1)
    else
      gd (ix x5 12) <|
      bnd (x4 + (gA S 20 0 x5.toNatClampNeg)) fun x4_4 =>
      rec x4_4 (x5 + 1)
def fX4_worthLeft_b6 (F : Nat) (S : St) (x1 : Int32) (x2 : Int32) (x3 : Int32) (rec : Int32 → Int32 → Option Int32) (x4 : Int32) (x5 : Int32) : Option Int32 :=
  if (gI S 4 0 3) ≤ x5 then
    some x4
  else
    cal (fX4_wrongedByAll F S x5) fun b_1 =>
    if x3 = 0 then
      cal (fX11_hasBit S b_1 x1) fun b_2 =>
      fX4_worthLeft_j49 F S x1 x2 x3 x4 x5 b_2 rec
    else
      if b_1 = ((1 : Int32) <<< (x1 &&& 31)) then
        fX4_worthLeft_j49 F S x1 x2 x3 x4 x5 1 rec
      else
        fX4_worthLeft_j49 F S x1 x2 x3 x4 x5 0 rec
def fX4_worthLeft_L6 (F : Nat) (S : St) (x1 : Int32) (x2 : Int32) (x3 : Int32) : Nat → Int32 → Int32 → Option Int32
  | 0, _, _ => none
  | n + 1, x4, x5 => fX4_worthLeft_b6 F S x1 x2 x3 (fX4_worthLeft_L6 F S x1 x2 x3 n) x4 x5
def fX4_worthLeft (F : Nat) (S : St) (p1 : Int32) (p2 : Int32) (p3 : Int32) : Option Int32 :=
  fX4_worthLeft_L6 F S p1 p2 p3
    F 0 0
-- X6_lengthOf
def fX6_lengthOf (S : St) (p1 : Int32) : Option Int32 :=
  gd (ix p1 9) <|
  some (gA S 17 0 p1.toNatClampNeg)
-- X5_lengthOfAll_p
def fX5_lengthOfAll_p_b4 (F : Nat) (S : St) (x1 : Int32) (rec : Int32 → Int32 → Option Int32) (x2 : Int32) (x3 : Int32) : Option Int32 :=
  if (gI S 0 0 6) ≤ x3 then
    some x2
  else
    cal (fX11_hasBit S x1 x3) fun b_1 =>
    if b_1 = 0 then
      rec x2 (x3 + 1)
    else
      cal (fX6_lengthOf S x3) fun b_2 =>
      bnd (x2 + b_2) fun x2_3 =>
      rec x2_3 (x3 + 1)
def fX5_lengthOfAll_p_L4 (F : Nat) (S : St) (x1 : Int32) : Nat → Int32 → Int32 → Option Int32
  | 0, _, _ => none
  | n + 1, x2, x3 => fX5_lengthOfAll_p_b4 F S x1 (fX5_lengthOfAll_p_L4 F S x1 n) x2 x3
def fX5_lengthOfAll_p (F : Nat) (S : St) (p1 : Int32) : Option Int32 :=
  fX5_lengthOfAll_p_L4 F S p1
    F 0 0
-- X6_priceOf
def fX6_priceOf (S : St) (p1 : Int32) (p2 : Int32) : Option Int32 :=
  gd (ix p1 9) <|
  gd (!(decide ((gI S 5 0 3) = (0 : Int32)))) <|
  some ((gA S 13 0 p1.toNatClampNeg) * ((p2 - 1) / (gI S 5 0 3)))
-- X5_restWith_p
def fX5_restWith_p (S : St) (p1 : Int32) (p2 : Int32) (p3 : Int32) : Option Int32 :=
  cal (fX6_lengthOf S p1) fun b_1 =>
  cal (fX6_priceOf S p1 (p3 + b_1)) fun b_2 =>
  gd (ix (p2 ||| ((1 : Int32) <<< (p1 &&& 31))) 512) <|
  some (b_2 + (gA S 33 0 (p2 ||| ((1 : Int32) <<< (p1 &&& 31))).toNatClampNeg))
-- X5_cheapestRest_p
def fX5_cheapestRest_p_b24 (F : Nat) (S : St) (x1 : Int32) (x3 : Int32) (rec : Int32 → Int32 → Option Int32) (x2 : Int32) (x4 : Int32) : Option Int32 :=
  if (gI S 0 0 6) ≤ x4 then
    some x2
  else
    cal (fX11_hasBit S ((gI S 5 0 2) &&& (x1 ^^^ (-1))) x4) fun b_2 =>
    if b_2 = 0 then
      rec x2 (x4 + 1)
    else
      cal (fX5_restWith_p S x4 x1 x3) fun b_3 =>
      bnd (if b_3 < x2 then b_3 else x2) fun x2_4 =>
      rec x2_4 (x4 + 1)
def fX5_cheapestRest_p_L24 (F : Nat) (S : St) (x1 : Int32) (x3 : Int32) : Nat → Int32 → Int32 → Option Int32
  | 0, _, _ => none
  | n + 1, x2, x4 => fX5_cheapestRest_p_b24 F S x1 x3 (fX5_cheapestRest_p_L24 F S x1 x3 n) x2 x4
def fX5_cheapestRest_p_j14 (F : Nat) (S : St) (x1 : Int32) (s0 : Int32) : Option Int32 :=
  cal (fX5_lengthOfAll_p F S x1) fun b_1 =>
  fX5_cheapestRest_p_L24 F S x1 b_1
    F s0 0
def fX5_cheapestRest_p (F : Nat) (S : St) (p1 : Int32) : Option Int32 :=
  if p1 = (gI S 5 0 2) then
    fX5_cheapestRest_p_j14 F S p1 0
  else
    fX5_cheapestRest_p_j14 F S p1 1000000000
-- X5_arrange_p
def fX5_arrange_p_b18 (F : Nat) (k50 : St → Option (Int32 × St)) (rec : Int32 → St → Option (Int32 × St)) (x2 : Int32) (S : St) : Option (Int32 × St) :=
  if x2 < 0 then
    k50 S
  else
    if (x2 &&& ((gI S 5 0 2) ^^^ (-1))) = 0 then
      cal (fX5_cheapestRest_p F S x2) fun b_4 =>
      gd (ix x2 512) <|
      bnd (pA S 33 0 x2.toNatClampNeg b_4) fun S_5 =>
      rec (x2 + (-1)) S_5
    else
      rec (x2 + (-1)) S
def fX5_arrange_p_L18 (F : Nat) (k50 : St → Option (Int32 × St)) : Nat → Int32 → St → Option (Int32 × St)
  | 0, _, _ => none
  | n + 1, x2, S => fX5_arrange_p_b18 F k50 (fX5_arrange_p_L18 F k50 n) x2 S
def fX5_arrange_p (F : Nat) (S : St) (p1 : Int32) : Option (Int32 × St) :=
  cal (fX0_everyOne S) fun b_1 =>
  bnd (pI S 5 0 2 (p1 &&& b_1)) fun S_2 =>
  bnd (gI S_2 5 0 2) fun x2_3 =>
  fX5_arrange_p_L18 F
    (fun S_6 =>
      gd (ix 0 512) <|
      some (gA S_6 33 0 (0 : Int32).toNatClampNeg, S_6)
    )
    F x2_3 S_2
-- X5_nextOf_h
def fX5_nextOf_h_b8 (F : Nat) (S : St) (x1 : Int32) (x2 : Int32) (rec : Int32 → Option Int32) (x3 : Int32) : Option Int32 :=
  if (gI S 0 0 6) ≤ x3 then
    some (-4)
  else
    cal (fX11_hasBit S ((gI S 2 0 2) &&& (x1 ^^^ (-1))) x3) fun b_2 =>
    if b_2 = 0 then
      rec (x3 + 1)
    else
      cal (fX5_restWith_h S x3 x1 x2) fun b_3 =>
      gd (ix x1 512) <|
      if b_3 = (gA S 19 0 x1.toNatClampNeg) then
        some x3
      else
        rec (x3 + 1)
def fX5_nextOf_h_L8 (F : Nat) (S : St) (x1 : Int32) (x2 : Int32) : Nat → Int32 → Option Int32
  | 0, _ => none
  | n + 1, x3 => fX5_nextOf_h_b8 F S x1 x2 (fX5_nextOf_h_L8 F S x1 x2 n) x3
def fX5_nextOf_h (F : Nat) (S : St) (p1 : Int32) : Option Int32 :=
  cal (fX5_lengthOfAll_h F S p1) fun b_1 =>
  fX5_nextOf_h_L8 F S p1 b_1
    F 0
-- X5_claimAt_h
def fX5_claimAt_h_b4 (F : Nat) (S : St) (x1 : Int32) (rec : Int32 → Int32 → Option Int32) (x2 : Int32) (x3 : Int32) : Option Int32 :=
  if (gI S 0 0 6) ≤ x3 then
    some (-4)
  else
    cal (fX5_nextOf_h F S x2) fun b_1 =>
    if b_1 < 0 then
      some b_1
    else
      if x3 = x1 then
        some b_1
      else
        bnd (x2 ||| ((1 : Int32) <<< (b_1 &&& 31))) fun x2_2 =>
        rec x2_2 (x3 + 1)
def fX5_claimAt_h_L4 (F : Nat) (S : St) (x1 : Int32) : Nat → Int32 → Int32 → Option Int32
  | 0, _, _ => none
  | n + 1, x2, x3 => fX5_claimAt_h_b4 F S x1 (fX5_claimAt_h_L4 F S x1 n) x2 x3
def fX5_claimAt_h (F : Nat) (S : St) (p1 : Int32) : Option Int32 :=
  fX5_claimAt_h_L4 F S p1
    F 0 0
-- X5_nextOf_p
def fX5_nextOf_p_b8 (F : Nat) (S : St) (x1 : Int32) (x2 : Int32) (rec : Int32 → Option Int32) (x3 : Int32) : Option Int32 :=
  if (gI S 0 0 6) ≤ x3 then
    some (-4)
  else
    cal (fX11_hasBit S ((gI S 5 0 2) &&& (x1 ^^^ (-1))) x3) fun b_2 =>
    if b_2 = 0 then
      rec (x3 + 1)
    else
      cal (fX5_restWith_p S x3 x1 x2) fun b_3 =>
      gd (ix x1 512) <|
      if b_3 = (gA S 33 0 x1.toNatClampNeg) then
        some x3
      else
        rec (x3 + 1)
def fX5_nextOf_p_L8 (F : Nat) (S : St) (x1 : Int32) (x2 : Int32) : Nat → Int32 → Option Int32
  | 0, _ => none
  | n + 1, x3 => fX5_nextOf_p_b8 F S x1 x2 (fX5_nextOf_p_L8 F S x1 x2 n) x3
def fX5_nextOf_p (F : Nat) (S : St) (p1 : Int32) : Option Int32 :=
  cal (fX5_lengthOfAll_p F S p1) fun b_1 =>
  fX5_nextOf_p_L8 F S p1 b_1
    F 0
-- X5_claimAt_p
def fX5_claimAt_p_b4 (F : Nat) (S : St) (x1 : Int32) (rec : Int32 → Int32 → Option Int32) (x2 : Int32) (x3 : Int32) : Option Int32 :=
  if (gI S 0 0 6) ≤ x3 then
    some (-4)
  else
    cal (fX5_nextOf_p F S x2) fun b_1 =>
    if b_1 < 0 then
      some b_1
    else
      if x3 = x1 then
        some b_1
      else
        bnd (x2 ||| ((1 : Int32) <<< (b_1 &&& 31))) fun x2_2 =>
        rec x2_2 (x3 + 1)
def fX5_claimAt_p_L4 (F : Nat) (S : St) (x1 : Int32) : Nat → Int32 → Int32 → Option Int32
  | 0, _, _ => none
  | n + 1, x2, x3 => fX5_claimAt_p_b4 F S x1 (fX5_claimAt_p_L4 F S x1 n) x2 x3
def fX5_claimAt_p (F : Nat) (S : St) (p1 : Int32) : Option Int32 :=
  fX5_claimAt_p_L4 F S p1
    F 0 0
-- X6_arrangeBy
def fX6_arrangeBy (F : Nat) (S : St) (p1 : Int32) (p2 : Int32) : Option (Int32 × St) :=
  bnd (pI S 5 0 3 (if 1 < p1 then p1 else 1)) fun S_1 =>
  cal (fX5_arrange_p F S_1 p2) fun b_2 =>
  some (b_2.1, b_2.2)
-- X7_has
def fX7_has (S : St) (p1 : Int32) : Option Int32 :=
  cal (fX11_within S p1 0 ((gI S 6 0 6) - 1)) fun b_1 =>
  gd (isB b_1) <|
  some b_1
-- X7_inherited
def fX7_inherited_j32 (S : St) (x3 : Int32) (s0 : Int32) : Option Int32 :=
  cal (fX7_has S x3) fun b_4 =>
  if b_4 = 0 then
    some (s0 ||| 0)
  else
    gd (ix x3 30) <|
    some (s0 ||| (gA S 39 0 x3.toNatClampNeg))
def fX7_inherited (S : St) (p1 : Int32) : Option Int32 :=
  gd (ix p1 30) <|
  bnd (gA S 36 0 p1.toNatClampNeg) fun x2_1 =>
  gd (ix p1 30) <|
  bnd (gA S 37 0 p1.toNatClampNeg) fun x3_2 =>
  cal (fX7_has S x2_1) fun b_3 =>
  if b_3 = 0 then
    fX7_inherited_j32 S x3_2 0
  else
    gd (ix x2_1 30) <|
    fX7_inherited_j32 S x3_2 (gA S 39 0 x2_1.toNatClampNeg)
-- X7_add
def fX7_add (S : St) (p1 : Int32) (p2 : Int32) (p3 : Int32) : Option (Int32 × St) :=
  if (gI S 6 0 6) < 30 then
    gd (ix (gI S 6 0 6) 30) <|
    bnd (pA S 34 0 (gI S 6 0 6).toNatClampNeg p1) fun S_1 =>
    gd (ix (gI S_1 6 0 6) 30) <|
    bnd (pA S_1 35 0 (gI S_1 6 0 6).toNatClampNeg 1000000) fun S_2 =>
    gd (ix (gI S_2 6 0 6) 30) <|
    bnd (pA S_2 36 0 (gI S_2 6 0 6).toNatClampNeg p2) fun S_3 =>
    gd (ix (gI S_3 6 0 6) 30) <|
    bnd (pA S_3 37 0 (gI S_3 6 0 6).toNatClampNeg p3) fun S_4 =>
    gd (ix (gI S_4 6 0 6) 30) <|
    bnd (pA S_4 38 0 (gI S_4 6 0 6).toNatClampNeg 0) fun S_5 =>
    cal (fX7_inherited S_5 (gI S_5 6 0 6)) fun b_6 =>
    gd (ix (gI S_5 6 0 6) 30) <|
    bnd (pA S_5 39 0 (gI S_5 6 0 6).toNatClampNeg b_6) fun S_7 =>
    bnd (pI S_7 6 0 6 ((gI S_7 6 0 6) + 1)) fun S_8 =>
    some ((gI S_8 6 0 6) - 1, S_8)
  else
    some ((-3), S)
-- X7_addFounder
def fX7_addFounder_b17 (F : Nat) (x2 : Int32) (rec : Int32 → Int32 → St → Option (Int32 × St)) (x3 : Int32) (x4 : Int32) (S : St) : Option (Int32 × St) :=
  if (gI S 6 0 6) ≤ x4 then
    some (x3, S)
  else
    gd (ix x4 30) <|
    cal (fX7_inherited S x4) fun b_2 =>
    gd (ix x4 30) <|
    bnd (pA S 39 0 x4.toNatClampNeg ((gA S 38 0 x4.toNatClampNeg) ||| b_2)) fun S_3 =>
    cal (fX7_isFounder S_3 x4 x2) fun b_4 =>
    if b_4 = 0 then
      rec x3 (x4 + 1) S_3
    else
      rec (x3 + 1) (x4 + 1) S_3
def fX7_addFounder_L17 (F : Nat) (x2 : Int32) : Nat → Int32 → Int32 → St → Option (Int32 × St)
  | 0, _, _, _ => none
  | n + 1, x3, x4, S => fX7_addFounder_b17 F x2 (fX7_addFounder_L17 F x2 n) x3 x4 S
def fX7_addFounder (F : Nat) (S : St) (p1 : Int32) (p2 : Int32) : Option (Int32 × St) :=
  gd (ix p1 30) <|
  gd (ix p1 30) <|
  bnd (pA S 38 0 p1.toNatClampNeg ((gA S 38 0 p1.toNatClampNeg) ||| ((1 : Int32) <<< (p2 &&& 31)))) fun S_1 =>
  fX7_addFounder_L17 F p2
    F 0 0 S_1
-- X7_ofBoth
def fX7_ofBoth_b5 (F : Nat) (S : St) (x1 : Int32) (x2 : Int32) (rec : Int32 → Int32 → Option Int32) (x3 : Int32) (x4 : Int32) : Option Int32 :=
  if (gI S 6 0 6) ≤ x4 then
    some x3
  else
    gd (ix x4 30) <|
    cal (fX11_hasBit S (gA S 39 0 x4.toNatClampNeg) x1) fun b_1 =>
    if b_1 = 0 then
      rec x3 (x4 + 1)
    else
      gd (ix x4 30) <|
      cal (fX11_hasBit S (gA S 39 0 x4.toNatClampNeg) x2) fun b_2 =>
      if b_2 = 0 then
        rec x3 (x4 + 1)
      else
        rec (x3 + 1) (x4 + 1)
def fX7_ofBoth_L5 (F : Nat) (S : St) (x1 : Int32) (x2 : Int32) : Nat → Int32 → Int32 → Option Int32
  | 0, _, _ => none
  | n + 1, x3, x4 => fX7_ofBoth_b5 F S x1 x2 (fX7_ofBoth_L5 F S x1 x2 n) x3 x4
def fX7_ofBoth (F : Nat) (S : St) (p1 : Int32) (p2 : Int32) : Option Int32 :=
  fX7_ofBoth_L5 F S p1 p2
    F 0 0
-- J6_bitCount_0f7a4
def fJ6_bitCount_0f7a4 (S : St) (p0 : Int32) : Option Int32 :=
  bnd (p0 - ((p0.toUInt32 >>> ((1 : Int32).toUInt32 &&& Int32.toUInt32 31)).toInt32 &&& 1431655765)) fun x0_1 =>
  bnd ((x0_1 &&& 858993459) + ((x0_1.toUInt32 >>> ((2 : Int32).toUInt32 &&& Int32.toUInt32 31)).toInt32 &&& 858993459)) fun x0_2 =>
  bnd ((x0_2 + (x0_2.toUInt32 >>> ((4 : Int32).toUInt32 &&& Int32.toUInt32 31)).toInt32) &&& 252645135) fun x0_3 =>
  bnd (x0_3 + (x0_3.toUInt32 >>> ((8 : Int32).toUInt32 &&& Int32.toUInt32 31)).toInt32) fun x0_4 =>
  bnd (x0_4 + (x0_4.toUInt32 >>> ((16 : Int32).toUInt32 &&& Int32.toUInt32 31)).toInt32) fun x0_5 =>
  some (x0_5 &&& 63)
-- X7_cousinsCut
def fX7_cousinsCut_b4 (F : Nat) (S : St) (x1 : Int32) (rec : Int32 → Int32 → Option Int32) (x2 : Int32) (x3 : Int32) : Option Int32 :=
  if (gI S 6 0 6) ≤ x3 then
    some x2
  else
    gd (ix x3 30) <|
    cal (fJ6_bitCount_0f7a4 S ((gA S 39 0 x3.toNatClampNeg) &&& x1)) fun b_1 =>
    gd (ix x3 30) <|
    cal (fJ6_bitCount_0f7a4 S ((gA S 39 0 x3.toNatClampNeg) &&& (x1 ^^^ (-1)))) fun b_2 =>
    bnd (x2 + (b_1 * b_2)) fun x2_3 =>
    rec x2_3 (x3 + 1)
def fX7_cousinsCut_L4 (F : Nat) (S : St) (x1 : Int32) : Nat → Int32 → Int32 → Option Int32
  | 0, _, _ => none
  | n + 1, x2, x3 => fX7_cousinsCut_b4 F S x1 (fX7_cousinsCut_L4 F S x1 n) x2 x3
def fX7_cousinsCut (F : Nat) (S : St) (p1 : Int32) : Option Int32 :=
  fX7_cousinsCut_L4 F S p1
    F 0 0
-- X7_addSaying
def fX7_addSaying (S : St) (p1 : Int32) (p2 : Int32) (p3 : Int32) (p4 : Int32) : Option (Int32 × St) :=
  if (gI S 6 0 11) < 20 then
    gd (ix (gI S 6 0 11) 20) <|
    bnd (pA S 40 0 (gI S 6 0 11).toNatClampNeg p1) fun S_1 =>
    gd (ix (gI S_1 6 0 11) 20) <|
    bnd (pA S_1 41 0 (gI S_1 6 0 11).toNatClampNeg p2) fun S_2 =>
    gd (ix (gI S_2 6 0 11) 20) <|
    bnd (pA S_2 42 0 (gI S_2 6 0 11).toNatClampNeg p3) fun S_3 =>
    gd (ix (gI S_3 6 0 11) 20) <|
    bnd (pA S_3 43 0 (gI S_3 6 0 11).toNatClampNeg (p4 &&& 1)) fun S_4 =>
    bnd (pI S_4 6 0 11 ((gI S_4 6 0 11) + 1)) fun S_5 =>
    some (gI S_5 6 0 11, S_5)
  else
    some ((-3), S)
-- X7_isSaying
def fX7_isSaying (S : St) (p1 : Int32) (p2 : Int32) (p3 : Int32) : Option Int32 :=
  gd (ix p1 20) <|
  if (gA S 41 0 p1.toNatClampNeg) = p2 then
    gd (ix p1 20) <|
    if (gA S 42 0 p1.toNatClampNeg) = p3 then
      some 1
    else
      some 0
  else
    some 0
-- X7_isSaidToBe
def fX7_isSaidToBe_b7 (F : Nat) (S : St) (x1 : Int32) (x2 : Int32) (k21 : Int32 → Option Int32) (rec : Int32 → Option Int32) (x3 : Int32) : Option Int32 :=
  if x3 < 0 then
    some 0
  else
    cal (fX7_isSaying S x3 x1 x2) fun b_2 =>
    if b_2 = 0 then
      rec (x3 + (-1))
    else
      k21 x3
def fX7_isSaidToBe_L7 (F : Nat) (S : St) (x1 : Int32) (x2 : Int32) (k21 : Int32 → Option Int32) : Nat → Int32 → Option Int32
  | 0, _ => none
  | n + 1, x3 => fX7_isSaidToBe_b7 F S x1 x2 k21 (fX7_isSaidToBe_L7 F S x1 x2 k21 n) x3
def fX7_isSaidToBe (F : Nat) (S : St) (p1 : Int32) (p2 : Int32) : Option Int32 :=
  bnd ((gI S 6 0 11) - 1) fun x3_1 =>
  fX7_isSaidToBe_L7 F S p1 p2
    (fun x3_3 =>
      gd (ix x3_3 20) <|
      gd (isB (gA S 43 0 x3_3.toNatClampNeg)) <|
      some (gA S 43 0 x3_3.toNatClampNeg)
    )
    F x3_1
-- X7_pairsAtOdds
def fX7_pairsAtOdds_j75 (F : Nat) (S : St) (x1 : Int32) (x2 : Int32) (x3 : Int32) (x5 : Int32) (x6 : Int32) (s0 : Int32) (s1 : Int32) (rec : Int32 → Int32 → Int32 → Int32 → Option Int32) : Option Int32 :=
  bnd (s1 + s0) fun x4_5 =>
  gd (ix x6 20) <|
  if (gA S 43 0 x6.toNatClampNeg) = 0 then
    bnd (x5 + 1) fun x5_6 =>
    rec x3 x4_5 x5_6 (x6 + (-1))
  else
    bnd (x5 + 0) fun x5_7 =>
    rec x3 x4_5 x5_7 (x6 + (-1))
def fX7_pairsAtOdds_b16 (F : Nat) (S : St) (x1 : Int32) (x2 : Int32) (k104 : Int32 → Int32 → Option Int32) (rec : Int32 → Int32 → Int32 → Int32 → Option Int32) (x3 : Int32) (x4 : Int32) (x5 : Int32) (x6 : Int32) : Option Int32 :=
  if x6 < 0 then
    k104 x4 x5
  else
    cal (fX7_isSaying S x6 x1 x2) fun b_2 =>
    if b_2 = 0 then
      rec x3 x4 x5 (x6 + (-1))
    else
      gd (ix x6 20) <|
      cal (fX11_hasBit S x3 (gA S 40 0 x6.toNatClampNeg)) fun b_3 =>
      if b_3 = 0 then
        gd (ix x6 20) <|
        bnd (x3 ||| ((1 : Int32) <<< ((gA S 40 0 x6.toNatClampNeg) &&& 31))) fun x3_4 =>
        gd (ix x6 20) <|
        if (gA S 43 0 x6.toNatClampNeg) = 0 then
          fX7_pairsAtOdds_j75 F S x1 x2 x3_4 x5 x6 0 x4 rec
        else
          fX7_pairsAtOdds_j75 F S x1 x2 x3_4 x5 x6 1 x4 rec
      else
        rec x3 x4 x5 (x6 + (-1))
def fX7_pairsAtOdds_L16 (F : Nat) (S : St) (x1 : Int32) (x2 : Int32) (k104 : Int32 → Int32 → Option Int32) : Nat → Int32 → Int32 → Int32 → Int32 → Option Int32
  | 0, _, _, _, _ => none
  | n + 1, x3, x4, x5, x6 => fX7_pairsAtOdds_b16 F S x1 x2 k104 (fX7_pairsAtOdds_L16 F S x1 x2 k104 n) x3 x4 x5 x6
def fX7_pairsAtOdds (F : Nat) (S : St) (p1 : Int32) (p2 : Int32) : Option Int32 :=
  bnd ((gI S 6 0 11) - 1) fun x6_1 =>
  fX7_pairsAtOdds_L16 F S p1 p2
    (fun x4_8 x5_9 =>
      some (x4_8 * x5_9)
    )
    F 0 0 0 x6_1
-- X8_add
def fX8_add (S : St) (p1 : Int32) (p2 : Int32) : Option (Int32 × St) :=
  if (gI S 7 0 2) < 8 then
    gd (ix (gI S 7 0 2) 8) <|
    bnd (pA S 44 0 (gI S 7 0 2).toNatClampNeg p1) fun S_1 =>
    gd (ix (gI S_1 7 0 2) 8) <|
    bnd (pA S_1 45 0 (gI S_1 7 0 2).toNatClampNeg p2) fun S_2 =>
    bnd (pI S_2 7 0 2 ((gI S_2 7 0 2) + 1)) fun S_3 =>
    some ((gI S_3 7 0 2) - 1, S_3)
  else
    some ((-3), S)
-- X8_toppingOf
def fX8_toppingOf_b6 (F : Nat) (S : St) (x1 : Int32) (rec : Int32 → Int32 → Option Int32) (x2 : Int32) (x3 : Int32) : Option Int32 :=
  if (gI S 7 0 2) ≤ x3 then
    some x2
  else
    gd (ix x3 8) <|
    gd (ix x1 8) <|
    gd (!(decide (100 = (0 : Int32)))) <|
    bnd (x2 + (((gA S 44 0 x3.toNatClampNeg) * (gA S 45 0 x1.toNatClampNeg)) / 100)) fun x2_2 =>
    rec x2_2 (x3 + 1)
def fX8_toppingOf_L6 (F : Nat) (S : St) (x1 : Int32) : Nat → Int32 → Int32 → Option Int32
  | 0, _, _ => none
  | n + 1, x2, x3 => fX8_toppingOf_b6 F S x1 (fX8_toppingOf_L6 F S x1 n) x2 x3
def fX8_toppingOf (F : Nat) (S : St) (p1 : Int32) : Option Int32 :=
  bnd (p1 + 1) fun x3_1 =>
  fX8_toppingOf_L6 F S p1
    F 0 x3_1
-- X8_costOfAll
def fX8_costOfAll_b4 (F : Nat) (S : St) (rec : Int32 → Int32 → Option Int32) (x1 : Int32) (x2 : Int32) : Option Int32 :=
  if (gI S 7 0 2) ≤ x2 then
    some x1
  else
    gd (ix x2 8) <|
    cal (fX8_toppingOf F S x2) fun b_1 =>
    bnd (x1 + ((gA S 44 0 x2.toNatClampNeg) + b_1)) fun x1_2 =>
    rec x1_2 (x2 + 1)
def fX8_costOfAll_L4 (F : Nat) (S : St) : Nat → Int32 → Int32 → Option Int32
  | 0, _, _ => none
  | n + 1, x1, x2 => fX8_costOfAll_b4 F S (fX8_costOfAll_L4 F S n) x1 x2
def fX8_costOfAll (F : Nat) (S : St) : Option Int32 :=
  fX8_costOfAll_L4 F S
    F 0 0
-- X9_append
def fX9_append_b20 (F : Nat) (t : Nat) (y2 : Int64) (rec : Int32 → St → Option (Int32 × St)) (x4 : Int32) (S : St) : Option (Int32 × St) :=
  if x4 < 0 then
    some (gI S 8 t 1, S)
  else
    gd (ix (gI S 8 t 1) 240) <|
    bnd (pA S 46 t (gI S 8 t 1).toNatClampNeg ((y2 >>> (((8 : Int32) * x4).toInt64 &&& 63)).toInt32.toInt8.toInt32.toInt8.toInt32)) fun S_2 =>
    bnd (pI S_2 8 t 1 ((gI S_2 8 t 1) + 1)) fun S_3 =>
    rec (x4 + (-1)) S_3
def fX9_append_L20 (F : Nat) (t : Nat) (y2 : Int64) : Nat → Int32 → St → Option (Int32 × St)
  | 0, _, _ => none
  | n + 1, x4, S => fX9_append_b20 F t y2 (fX9_append_L20 F t y2 n) x4 S
def fX9_append (F : Nat) (S : St) (t : Nat) (p1 : Int32) (p2 : Int64) : Option (Int32 × St) :=
  gd (decide (t < 2)) <|
  if ((gI S 8 t 1) + p1) ≤ 240 then
    bnd (p1 - 1) fun x4_1 =>
    fX9_append_L20 F t p2
      F x4_1 S
  else
    some ((-3), S)
-- X9_clear
def fX9_clear (S : St) (t : Nat) : Option (Int32 × St) :=
  gd (decide (t < 2)) <|
  bnd (gI S 8 t 1) fun x1_1 =>
  bnd (pI S 8 t 1 0) fun S_2 =>
  some (x1_1, S_2)
-- X9_signAt
def fX9_signAt (S : St) (t : Nat) (p1 : Int32) : Option Int32 :=
  gd (decide (t < 2)) <|
  cal (fX11_within S p1 0 ((gI S 8 t 1) - 1)) fun b_1 =>
  if b_1 = 0 then
    some 0
  else
    gd (ix p1 240) <|
    some (gA S 46 t p1.toNatClampNeg)
-- X9_figuresAt
def fX9_figuresAt_b2 (F : Nat) (S : St) (t : Nat) (x1 : Int32) (rec : Int32 → Option Int32) (x2 : Int32) : Option Int32 :=
  if 3 ≤ x2 then
    some x2
  else
    cal (fX9_signAt S t (x1 + x2)) fun b_1 =>
    cal (fX11_within S b_1 48 57) fun b_2 =>
    if b_2 = 0 then
      some x2
    else
      rec (x2 + 1)
def fX9_figuresAt_L2 (F : Nat) (S : St) (t : Nat) (x1 : Int32) : Nat → Int32 → Option Int32
  | 0, _ => none
  | n + 1, x2 => fX9_figuresAt_b2 F S t x1 (fX9_figuresAt_L2 F S t x1 n) x2
def fX9_figuresAt (F : Nat) (S : St) (t : Nat) (p1 : Int32) : Option Int32 :=
  gd (decide (t < 2)) <|
  fX9_figuresAt_L2 F S t p1
    F 0
-- X9_numberAt
def fX9_numberAt_b5 (F : Nat) (S : St) (t : Nat) (x2 : Int32) (rec : Int32 → Int32 → Option Int32) (x3 : Int32) (x4 : Int32) : Option Int32 :=
  if x2 ≤ x4 then
    some x3
  else
    cal (fX9_signAt S t x4) fun b_1 =>
    bnd ((((10 : Int32) * x3) + b_1) - 48) fun x3_2 =>
    rec x3_2 (x4 + 1)
def fX9_numberAt_L5 (F : Nat) (S : St) (t : Nat) (x2 : Int32) : Nat → Int32 → Int32 → Option Int32
  | 0, _, _ => none
  | n + 1, x3, x4 => fX9_numberAt_b5 F S t x2 (fX9_numberAt_L5 F S t x2 n) x3 x4
def fX9_numberAt (F : Nat) (S : St) (t : Nat) (p1 : Int32) (p2 : Int32) : Option Int32 :=
  gd (decide (t < 2)) <|
  fX9_numberAt_L5 F S t p2
    F 0 p1
-- X9_read
def fX9_read_j77 (F : Nat) (S : St) (t : Nat) (m2 : Nat) (x3 : Int32) (x4 : Int32) (x5 : Int32) (x6 : Int32) (x7 : Int32) (s0 : Int32) (rec : Int32 → Int32 → St → Option (Int32 × St)) : Option (Int32 × St) :=
  if x7 = x5 then
    some ((-1), S)
  else
    cal (fX9_signAt S t x7) fun b_5 =>
    if b_5 = s0 then
      cal (fX9_numberAt F S t x5 x7) fun b_6 =>
      gd (ix x6 5) <|
      bnd (pA S 47 t x6.toNatClampNeg b_6) fun S_7 =>
      bnd (x7 + 1) fun x5_8 =>
      rec x5_8 (x6 + 1) S_7
    else
      some ((-1), S)
def fX9_read_b43 (F : Nat) (t : Nat) (m2 : Nat) (x3 : Int32) (x4 : Int32) (k126 : Int32 → St → Option (Int32 × St)) (rec : Int32 → Int32 → St → Option (Int32 × St)) (x5 : Int32) (x6 : Int32) (S : St) : Option (Int32 × St) :=
  if x4 ≤ x6 then
    k126 x5 S
  else
    cal (fX9_figuresAt F S t x5) fun b_3 =>
    bnd (x5 + b_3) fun x7_4 =>
    if x6 = (x4 - 1) then
      fX9_read_j77 F S t m2 x3 x4 x5 x6 x7_4 59 rec
    else
      fX9_read_j77 F S t m2 x3 x4 x5 x6 x7_4 44 rec
def fX9_read_L43 (F : Nat) (t : Nat) (m2 : Nat) (x3 : Int32) (x4 : Int32) (k126 : Int32 → St → Option (Int32 × St)) : Nat → Int32 → Int32 → St → Option (Int32 × St)
  | 0, _, _, _ => none
  | n + 1, x5, x6, S => fX9_read_b43 F t m2 x3 x4 k126 (fX9_read_L43 F t m2 x3 x4 k126 n) x5 x6 S
def fX9_read_j33 (F : Nat) (S : St) (t : Nat) (x1 : Int32) (m2 : Nat) (x3 : Int32) (s0 : Int32) : Option (Int32 × St) :=
  bnd (x1 + 1) fun x5_2 =>
  fX9_read_L43 F t m2 x3 s0
    (fun x5_10 S_9 =>
      if s0 = 0 then
        some ((-1), S_9)
      else
        cal (fX3_fill S_9 m2 x3 t) fun b_11 =>
        cal (fX3_isInBounds b_11 m2) fun b_12 =>
        if b_12 = 0 then
          some ((-1), b_11)
        else
          some (x5_10, b_11)
    )
    F x5_2 0 S
def fX9_read_j28 (F : Nat) (S : St) (t : Nat) (x1 : Int32) (m2 : Nat) (x3 : Int32) : Option (Int32 × St) :=
  fX9_read_j33 F S t x1 m2 x3 5
def fX9_read (F : Nat) (S : St) (t : Nat) (p1 : Int32) (m2 : Nat) : Option (Int32 × St) :=
  gd (decide (t < 2)) <|
  gd (decide (m2 < 70)) <|
  cal (fX9_signAt S t p1) fun b_1 =>
  if b_1 = 119 then
    fX9_read_j33 F S t p1 m2 b_1 3
  else
    if b_1 = 108 then
      fX9_read_j28 F S t p1 m2 b_1
    else
      if b_1 = 98 then
        fX9_read_j28 F S t p1 m2 b_1
      else
        fX9_read_j33 F S t p1 m2 b_1 0
-- X9_firstFault
def fX9_firstFault_b4 (F : Nat) (t : Nat) (rec : Int32 → Int32 → St → Option (Int32 × St)) (x1 : Int32) (x2 : Int32) (S : St) : Option (Int32 × St) :=
  if 240 ≤ x2 then
    some ((-4), S)
  else
    if (gI S 8 t 1) ≤ x1 then
      some ((-4), S)
    else
      cal (fX9_read F S t x1 (68 + t)) fun b_1 =>
      if 0 ≤ b_1.1 then
        rec b_1.1 (x2 + 1) b_1.2
      else
        some (x1, b_1.2)
def fX9_firstFault_L4 (F : Nat) (t : Nat) : Nat → Int32 → Int32 → St → Option (Int32 × St)
  | 0, _, _, _ => none
  | n + 1, x1, x2, S => fX9_firstFault_b4 F t (fX9_firstFault_L4 F t n) x1 x2 S
def fX9_firstFault (F : Nat) (S : St) (t : Nat) : Option (Int32 × St) :=
  gd (decide (t < 2)) <|
  fX9_firstFault_L4 F t
    F 0 0 S
-- X10_tell
def fX10_tell (S : St) (t : Nat) (p1 : Int32) (p2 : Int32) (p3 : Int32) : Option (Int32 × St) :=
  gd (decide (t < 2)) <|
  if (gI S 9 t 3) < 20 then
    gd (ix (gI S 9 t 3) 20) <|
    bnd (pA S 48 t (gI S 9 t 3).toNatClampNeg p1) fun S_1 =>
    gd (ix (gI S_1 9 t 3) 20) <|
    bnd (pA S_1 49 t (gI S_1 9 t 3).toNatClampNeg p2) fun S_2 =>
    gd (ix (gI S_2 9 t 3) 20) <|
    bnd (pA S_2 50 t (gI S_2 9 t 3).toNatClampNeg p3) fun S_3 =>
    bnd (pI S_3 9 t 3 ((gI S_3 9 t 3) + 1)) fun S_4 =>
    some (gI S_4 9 t 3, S_4)
  else
    some ((-3), S)
-- X10_enact
def fX10_enact_b22 (F : Nat) (t : Nat) (rec : Int32 → St → Option (Int32 × St)) (x1 : Int32) (S : St) : Option (Int32 × St) :=
  if 34 ≤ (gI S 9 t 6) then
    some (gI S 9 t 6, S)
  else
    if (gI S 8 t 1) ≤ x1 then
      some (gI S 9 t 6, S)
    else
      gd (ix (gI S 9 t 6) 34) <|
      cal (fX9_read F S t x1 (34 * t + (gI S 9 t 6).toNatClampNeg)) fun b_3 =>
      bnd (pI b_3.2 9 t 6 ((gI b_3.2 9 t 6) + 1)) fun S_4 =>
      rec b_3.1 S_4
def fX10_enact_L22 (F : Nat) (t : Nat) : Nat → Int32 → St → Option (Int32 × St)
  | 0, _, _ => none
  | n + 1, x1, S => fX10_enact_b22 F t (fX10_enact_L22 F t n) x1 S
def fX10_enact (F : Nat) (S : St) (t : Nat) : Option (Int32 × St) :=
  gd (decide (t < 2)) <|
  cal (fX9_firstFault F S t) fun b_1 =>
  if b_1.1 = (-4) then
    bnd (pI b_1.2 9 t 6 0) fun S_2 =>
    fX10_enact_L22 F t
      F 0 S_2
  else
    some ((-2), b_1.2)
-- X10_meaningOf
def fX10_meaningOf_b8 (F : Nat) (S : St) (t : Nat) (x1 : Int32) (x2 : Int32) (k67 : Int32 → Int32 → Option Int32) (rec : Int32 → Int32 → Int32 → Option Int32) (x3 : Int32) (x4 : Int32) (x5 : Int32) : Option Int32 :=
  if (gI S 9 t 3) ≤ x5 then
    k67 x3 x4
  else
    gd (ix x5 20) <|
    if (gA S 48 t x5.toNatClampNeg) = x1 then
      gd (ix x5 20) <|
      cal (fX11_within S (gA S 49 t x5.toNatClampNeg) x4 x2) fun b_1 =>
      if b_1 = 0 then
        rec x3 x4 (x5 + 1)
      else
        gd (ix x5 20) <|
        bnd (gA S 49 t x5.toNatClampNeg) fun x4_2 =>
        gd (ix x5 20) <|
        bnd (gA S 50 t x5.toNatClampNeg) fun x3_3 =>
        rec x3_3 x4_2 (x5 + 1)
    else
      rec x3 x4 (x5 + 1)
def fX10_meaningOf_L8 (F : Nat) (S : St) (t : Nat) (x1 : Int32) (x2 : Int32) (k67 : Int32 → Int32 → Option Int32) : Nat → Int32 → Int32 → Int32 → Option Int32
  | 0, _, _, _ => none
  | n + 1, x3, x4, x5 => fX10_meaningOf_b8 F S t x1 x2 k67 (fX10_meaningOf_L8 F S t x1 x2 k67 n) x3 x4 x5
def fX10_meaningOf_b70 (F : Nat) (S : St) (t : Nat) (x1 : Int32) (x2 : Int32) (rec : Int32 → Int32 → Int32 → Option Int32) (x3 : Int32) (x4 : Int32) (x5 : Int32) : Option Int32 :=
  if (gI S 9 t 6) ≤ x5 then
    some x3
  else
    gd (ix x5 34) <|
    cal (fX3_isBook S (34 * t + x5.toNatClampNeg)) fun b_6 =>
    if b_6 = 0 then
      rec x3 x4 (x5 + 1)
    else
      if (gI S 3 (34 * t + x5.toNatClampNeg) 1) = x1 then
        cal (fX11_within S (gI S 3 (34 * t + x5.toNatClampNeg) 3) x4 x2) fun b_7 =>
        if b_7 = 0 then
          rec x3 x4 (x5 + 1)
        else
          bnd (gI S 3 (34 * t + x5.toNatClampNeg) 3) fun x4_8 =>
          bnd (gI S 3 (34 * t + x5.toNatClampNeg) 5) fun x3_9 =>
          rec x3_9 x4_8 (x5 + 1)
      else
        rec x3 x4 (x5 + 1)
def fX10_meaningOf_L70 (F : Nat) (S : St) (t : Nat) (x1 : Int32) (x2 : Int32) : Nat → Int32 → Int32 → Int32 → Option Int32
  | 0, _, _, _ => none
  | n + 1, x3, x4, x5 => fX10_meaningOf_b70 F S t x1 x2 (fX10_meaningOf_L70 F S t x1 x2 n) x3 x4 x5
def fX10_meaningOf (F : Nat) (S : St) (t : Nat) (p1 : Int32) (p2 : Int32) : Option Int32 :=
  gd (decide (t < 2)) <|
  fX10_meaningOf_L8 F S t p1 p2
    (fun x3_4 x4_5 =>
      fX10_meaningOf_L70 F S t p1 p2
        F x3_4 x4_5 0
    )
    F 0 0 0
-- X10_learn
def fX10_learn_b2 (F : Nat) (t : Nat) (x1 : Int32) (rec : Int32 → St → Option St) (x2 : Int32) (S : St) : Option St :=
  if 8 ≤ x2 then
    some S
  else
    cal (fX10_meaningOf F S t x2 x1) fun b_1 =>
    gd (ix x2 8) <|
    bnd (pA S 52 t x2.toNatClampNeg b_1) fun S_2 =>
    rec (x2 + 1) S_2
def fX10_learn_L2 (F : Nat) (t : Nat) (x1 : Int32) : Nat → Int32 → St → Option St
  | 0, _, _ => none
  | n + 1, x2, S => fX10_learn_b2 F t x1 (fX10_learn_L2 F t x1 n) x2 S
def fX10_learn (F : Nat) (S : St) (t : Nat) (p1 : Int32) : Option St :=
  gd (decide (t < 2)) <|
  fX10_learn_L2 F t p1
    F 0 S
-- X10_ruling
def fX10_ruling_b8 (F : Nat) (S : St) (t : Nat) (x1 : Int32) (x2 : Int32) (x3 : Int32) (x4 : Int32) (rec : Int32 → Option Int32) (x5 : Int32) : Option Int32 :=
  if x5 < 0 then
    some (-4)
  else
    gd (ix x5 34) <|
    cal (fX3_speaksOf S (34 * t + x5.toNatClampNeg) x2 x3) fun b_2 =>
    if b_2 = 0 then
      rec (x5 + (-1))
    else
      gd (ix (gI S 3 (34 * t + x5.toNatClampNeg) 1) 8) <|
      cal (fX11_hasBit S (gA S 52 t (gI S 3 (34 * t + x5.toNatClampNeg) 1).toNatClampNeg) x1) fun b_3 =>
      if b_3 = 0 then
        rec (x5 + (-1))
      else
        if ((gI S 3 (34 * t + x5.toNatClampNeg) 5) &&& (x4 ^^^ (-1))) = 0 then
          some x5
        else
          rec (x5 + (-1))
def fX10_ruling_L8 (F : Nat) (S : St) (t : Nat) (x1 : Int32) (x2 : Int32) (x3 : Int32) (x4 : Int32) : Nat → Int32 → Option Int32
  | 0, _ => none
  | n + 1, x5 => fX10_ruling_b8 F S t x1 x2 x3 x4 (fX10_ruling_L8 F S t x1 x2 x3 x4 n) x5
def fX10_ruling (F : Nat) (S : St) (t : Nat) (p1 : Int32) (p2 : Int32) (p3 : Int32) (p4 : Int32) : Option Int32 :=
  gd (decide (t < 2)) <|
  bnd ((gI S 9 t 6) - 1) fun x5_1 =>
  fX10_ruling_L8 F S t p1 p2 p3 p4
    F x5_1
-- X10_lets
def fX10_lets (F : Nat) (S : St) (t : Nat) (p1 : Int32) (p2 : Int32) (p3 : Int32) (p4 : Int32) : Option Int32 :=
  gd (decide (t < 2)) <|
  cal (fX10_ruling F S t p1 p2 p3 p4) fun b_1 =>
  if b_1 < 0 then
    some 0
  else
    gd (ix b_1 34) <|
    if (gI S 3 (34 * t + b_1.toNatClampNeg) 0) = 108 then
      some 1
    else
      some 0
-- X11_isTongue
def fX11_isTongue (S : St) (p0 : Int32) : Option Int32 :=
  cal (fX11_within S p0 0 1) fun b_1 =>
  gd (isB b_1) <|
  some b_1
-- X11_tongueOf
def fX11_tongueOf (S : St) (p1 : Int32) : Option Nat :=
  if p1 = 0 then
    some 0
  else
    some 1
-- X11_book
def fX11_book (S : St) (p1 : Int32) (p2 : Int32) (p3 : Int32) (p4 : Int32) : Option (Int32 × St) :=
  cal (fX11_isTongue S p1) fun b_1 =>
  if b_1 = 0 then
    some ((-1), S)
  else
    cal (fX11_isWord S p2) fun b_2 =>
    if b_2 = 0 then
      some ((-1), S)
    else
      cal (fX11_isYear S p3) fun b_3 =>
      if b_3 = 0 then
        some ((-1), S)
      else
        cal (fX11_within S p4 0 63) fun b_4 =>
        if b_4 = 0 then
          some ((-1), S)
        else
          cal (fX11_tongueOf S p1) fun b_5 =>
          gd (decide (b_5 < 2)) <|
          cal (fX10_tell S b_5 p2 p3 p4) fun b_6 =>
          some (b_6.1, b_6.2)
-- X11_write
def fX11_write (F : Nat) (S : St) (p1 : Int32) (p2 : Int32) (p3 : Int64) : Option (Int32 × St) :=
  cal (fX11_isTongue S p1) fun b_1 =>
  if b_1 = 0 then
    some ((-1), S)
  else
    cal (fX11_within S p2 1 8) fun b_2 =>
    if b_2 = 0 then
      some ((-1), S)
    else
      cal (fX11_tongueOf S p1) fun b_3 =>
      gd (decide (b_3 < 2)) <|
      cal (fX9_append F S b_3 p2 p3) fun b_4 =>
      some (b_4.1, b_4.2)
-- X11_wipe
def fX11_wipe (S : St) (p1 : Int32) : Option (Int32 × St) :=
  cal (fX11_isTongue S p1) fun b_1 =>
  if b_1 = 0 then
    some ((-1), S)
  else
    cal (fX11_tongueOf S p1) fun b_2 =>
    gd (decide (b_2 < 2)) <|
    cal (fX9_clear S b_2) fun b_3 =>
    some (b_3.1, b_3.2)
-- X11_fault
def fX11_fault (F : Nat) (S : St) (p1 : Int32) : Option (Int32 × St) :=
  cal (fX11_isTongue S p1) fun b_1 =>
  if b_1 = 0 then
    some ((-1), S)
  else
    cal (fX11_tongueOf S p1) fun b_2 =>
    gd (decide (b_2 < 2)) <|
    cal (fX9_firstFault F S b_2) fun b_3 =>
    some (b_3.1, b_3.2)
-- X11_force
def fX11_force (F : Nat) (S : St) (p1 : Int32) : Option (Int32 × St) :=
  cal (fX11_isTongue S p1) fun b_1 =>
  if b_1 = 0 then
    some ((-1), S)
  else
    cal (fX11_tongueOf S p1) fun b_2 =>
    gd (decide (b_2 < 2)) <|
    cal (fX10_enact F S b_2) fun b_3 =>
    some (b_3.1, b_3.2)
-- X11_means
def fX11_means (F : Nat) (S : St) (p1 : Int32) (p2 : Int32) (p3 : Int32) : Option Int32 :=
  cal (fX11_isTongue S p1) fun b_1 =>
  if b_1 = 0 then
    some (-1)
  else
    cal (fX11_isWord S p2) fun b_2 =>
    if b_2 = 0 then
      some (-1)
    else
      cal (fX11_isYear S p3) fun b_3 =>
      if b_3 = 0 then
        some (-1)
      else
        cal (fX11_tongueOf S p1) fun b_4 =>
        gd (decide (b_4 < 2)) <|
        cal (fX10_meaningOf F S b_4 p2 p3) fun b_5 =>
        some b_5
-- X11_isVerb
def fX11_isVerb (S : St) (p0 : Int32) : Option Int32 :=
  cal (fX11_within S p0 0 5) fun b_1 =>
  gd (isB b_1) <|
  some b_1
-- X11_isFactSet
def fX11_isFactSet (S : St) (p0 : Int32) : Option Int32 :=
  cal (fX11_within S p0 0 255) fun b_1 =>
  gd (isB b_1) <|
  some b_1
-- X11_let
def fX11_let (F : Nat) (S : St) (p1 : Int32) (p2 : Int32) (p3 : Int32) (p4 : Int32) (p5 : Int32) : Option (Int32 × St) :=
  cal (fX11_isTongue S p1) fun b_1 =>
  if b_1 = 0 then
    some ((-1), S)
  else
    cal (fX11_isVerb S p2) fun b_2 =>
    if b_2 = 0 then
      some ((-1), S)
    else
      cal (fX11_isThing S p3) fun b_3 =>
      if b_3 = 0 then
        some ((-1), S)
      else
        cal (fX11_isYear S p4) fun b_4 =>
        if b_4 = 0 then
          some ((-1), S)
        else
          cal (fX11_isFactSet S p5) fun b_5 =>
          if b_5 = 0 then
            some ((-1), S)
          else
            cal (fX11_tongueOf S p1) fun b_6 =>
            gd (decide (b_6 < 2)) <|
            cal (fX10_learn F S b_6 p4) fun b_7 =>
            cal (fX10_lets F b_7 b_6 p2 p3 p4 p5) fun b_8 =>
            if b_8 = 0 then
              some (0, b_7)
            else
              some (1, b_7)
-- X11_why
def fX11_why (F : Nat) (S : St) (p1 : Int32) (p2 : Int32) (p3 : Int32) (p4 : Int32) (p5 : Int32) : Option (Int32 × St) :=
  cal (fX11_isTongue S p1) fun b_1 =>
  if b_1 = 0 then
    some ((-1), S)
  else
    cal (fX11_isVerb S p2) fun b_2 =>
    if b_2 = 0 then
      some ((-1), S)
    else
      cal (fX11_isThing S p3) fun b_3 =>
      if b_3 = 0 then
        some ((-1), S)
      else
        cal (fX11_isYear S p4) fun b_4 =>
        if b_4 = 0 then
          some ((-1), S)
        else
          cal (fX11_isFactSet S p5) fun b_5 =>
          if b_5 = 0 then
            some ((-1), S)
          else
            cal (fX11_tongueOf S p1) fun b_6 =>
            gd (decide (b_6 < 2)) <|
            cal (fX10_learn F S b_6 p4) fun b_7 =>
            cal (fX10_ruling F b_7 b_6 p2 p3 p4 p5) fun b_8 =>
            some (b_8, b_7)
-- X11_learn
def fX11_learn (F : Nat) (S : St) (p1 : Int32) : Option St :=
  cal (fX10_learn F S 0 p1) fun b_1 =>
  cal (fX10_learn F b_1 1 p1) fun b_2 =>
  some b_2
-- X11_differ
def fX11_differ (F : Nat) (S : St) (p1 : Int32) (p2 : Int32) (p3 : Int32) : Option Int32 :=
  gd (!(decide (6 = (0 : Int32)))) <|
  bnd (p1 / 6) fun x4_1 =>
  gd (!(decide (6 = (0 : Int32)))) <|
  bnd (p1 - p1 / 6 * 6) fun x5_2 =>
  cal (fX10_lets F S 0 x4_1 x5_2 p2 p3) fun b_3 =>
  cal (fX10_lets F S 1 x4_1 x5_2 p2 p3) fun b_4 =>
  if b_3 = b_4 then
    some 0
  else
    some 1
-- X11_unlike
def fX11_unlike_b32 (F : Nat) (S : St) (x1 : Int32) (x2 : Int32) (x3 : Int32) (k68 : Int32 → Option (Int32 × St)) (rec : Int32 → Int32 → Option (Int32 × St)) (x4 : Int32) (x5 : Int32) : Option (Int32 × St) :=
  if 36 ≤ x5 then
    k68 x4
  else
    cal (fX11_differ F S x5 x1 x2) fun b_4 =>
    if b_4 = 0 then
      rec x4 (x5 + 1)
    else
      if x4 = x3 then
        some (x5, S)
      else
        rec (x4 + 1) (x5 + 1)
def fX11_unlike_L32 (F : Nat) (S : St) (x1 : Int32) (x2 : Int32) (x3 : Int32) (k68 : Int32 → Option (Int32 × St)) : Nat → Int32 → Int32 → Option (Int32 × St)
  | 0, _, _ => none
  | n + 1, x4, x5 => fX11_unlike_b32 F S x1 x2 x3 k68 (fX11_unlike_L32 F S x1 x2 x3 k68 n) x4 x5
def fX11_unlike (F : Nat) (S : St) (p1 : Int32) (p2 : Int32) (p3 : Int32) : Option (Int32 × St) :=
  cal (fX11_isYear S p1) fun b_1 =>
  if b_1 = 0 then
    some ((-1), S)
  else
    cal (fX11_isFactSet S p2) fun b_2 =>
    if b_2 = 0 then
      some ((-1), S)
    else
      if (-1) ≤ p3 then
        cal (fX11_learn F S p1) fun b_3 =>
        fX11_unlike_L32 F b_3 p1 p2 p3
          (fun x4_5 =>
            if p3 = (-1) then
              some (x4_5, b_3)
            else
              some ((-4), b_3)
          )
          F 0 0
      else
        some ((-1), S)
-- X11_isAct
def fX11_isAct (S : St) (p0 : Int32) : Option Int32 :=
  cal (fX11_within S p0 0 35) fun b_1 =>
  gd (isB b_1) <|
  some b_1
-- X11_least
def fX11_least_j58 (F : Nat) (S : St) (x1 : Int32) (x2 : Int32) (x3 : Int32) (x4 : Int32) (s0 : Int32) (rec : Int32 → Int32 → Option (Int32 × St)) : Option (Int32 × St) :=
  if s0 = 0 then
    rec x3 (x4 + 1)
  else
    cal (fX11_differ F S x1 x2 x4) fun b_4 =>
    if b_4 = 0 then
      rec x3 (x4 + 1)
    else
      rec x4 (x4 + 1)
def fX11_least_j53 (F : Nat) (S : St) (x1 : Int32) (x2 : Int32) (x3 : Int32) (x4 : Int32) (rec : Int32 → Int32 → Option (Int32 × St)) : Option (Int32 × St) :=
  fX11_least_j58 F S x1 x2 x3 x4 1 rec
def fX11_least_b27 (F : Nat) (S : St) (x1 : Int32) (x2 : Int32) (rec : Int32 → Int32 → Option (Int32 × St)) (x3 : Int32) (x4 : Int32) : Option (Int32 × St) :=
  if 256 ≤ x4 then
    some (x3, S)
  else
    if x3 = (-4) then
      fX11_least_j53 F S x1 x2 x3 x4 rec
    else
      cal (fJ6_bitCount_0f7a4 S x4) fun b_5 =>
      cal (fJ6_bitCount_0f7a4 S x3) fun b_6 =>
      if b_6 ≤ b_5 then
        fX11_least_j58 F S x1 x2 x3 x4 0 rec
      else
        fX11_least_j53 F S x1 x2 x3 x4 rec
def fX11_least_L27 (F : Nat) (S : St) (x1 : Int32) (x2 : Int32) : Nat → Int32 → Int32 → Option (Int32 × St)
  | 0, _, _ => none
  | n + 1, x3, x4 => fX11_least_b27 F S x1 x2 (fX11_least_L27 F S x1 x2 n) x3 x4
def fX11_least (F : Nat) (S : St) (p1 : Int32) (p2 : Int32) : Option (Int32 × St) :=
  cal (fX11_isAct S p1) fun b_1 =>
  if b_1 = 0 then
    some ((-1), S)
  else
    cal (fX11_isYear S p2) fun b_2 =>
    if b_2 = 0 then
      some ((-1), S)
    else
      cal (fX11_learn F S p2) fun b_3 =>
      fX11_least_L27 F b_3 p1 p2
        F (-4) 0
-- X11_doneBy
def fX11_doneBy_j105 (F : Nat) (S : St) (x1 : Int32) (x2 : Int32) (x3 : Int32) (x4 : Int32) (x5 : Int32) (x6 : Int32) (rec : Int32 → Int32 → St → Option (Int32 × St)) : Option (Int32 × St) :=
  gd (ix x5 8) <|
  bnd (pA S 52 0 x5.toNatClampNeg x6) fun S_9 =>
  rec x4 (x5 + 1) S_9
def fX11_doneBy_b47 (F : Nat) (x1 : Int32) (x2 : Int32) (x3 : Int32) (rec : Int32 → Int32 → St → Option (Int32 × St)) (x4 : Int32) (x5 : Int32) (S : St) : Option (Int32 × St) :=
  if 8 ≤ x5 then
    some (x4, S)
  else
    gd (ix x5 8) <|
    bnd (gA S 52 0 x5.toNatClampNeg) fun x6_6 =>
    gd (ix x5 8) <|
    gd (ix x5 8) <|
    bnd (pA S 52 0 x5.toNatClampNeg (gA S 52 1 x5.toNatClampNeg)) fun S_7 =>
    cal (fX11_differ F S_7 x1 x2 x3) fun b_8 =>
    if b_8 = 0 then
      bnd (x4 ||| ((1 : Int32) <<< (x5 &&& 31))) fun x4_10 =>
      fX11_doneBy_j105 F S_7 x1 x2 x3 x4_10 x5 x6_6 rec
    else
      fX11_doneBy_j105 F S_7 x1 x2 x3 x4 x5 x6_6 rec
def fX11_doneBy_L47 (F : Nat) (x1 : Int32) (x2 : Int32) (x3 : Int32) : Nat → Int32 → Int32 → St → Option (Int32 × St)
  | 0, _, _, _ => none
  | n + 1, x4, x5, S => fX11_doneBy_b47 F x1 x2 x3 (fX11_doneBy_L47 F x1 x2 x3 n) x4 x5 S
def fX11_doneBy (F : Nat) (S : St) (p1 : Int32) (p2 : Int32) (p3 : Int32) : Option (Int32 × St) :=
  cal (fX11_isAct S p1) fun b_1 =>
  if b_1 = 0 then
    some ((-1), S)
  else
    cal (fX11_isYear S p2) fun b_2 =>
    if b_2 = 0 then
      some ((-1), S)
    else
      cal (fX11_isFactSet S p3) fun b_3 =>
      if b_3 = 0 then
        some ((-1), S)
      else
        cal (fX11_learn F S p2) fun b_4 =>
        cal (fX11_differ F b_4 p1 p2 p3) fun b_5 =>
        if b_5 = 0 then
          some ((-2), b_4)
        else
          fX11_doneBy_L47 F p1 p2 p3
            F 0 0 b_4
-- X11_person
def fX11_person_j70 (S : St) (x1 : Int32) (x2 : Int32) (x3 : Int32) : Option (Int32 × St) :=
  cal (fX7_add S x1 x2 x3) fun b_3 =>
  some (b_3.1, b_3.2)
def fX11_person_j49 (S : St) (x1 : Int32) (x2 : Int32) (x3 : Int32) (x4 : Int32) (s0 : Int32) : Option (Int32 × St) :=
  cal (fX11_isYear S x1) fun b_2 =>
  if b_2 = 0 then
    some ((-1), S)
  else
    if x4 = 0 then
      if s0 = 0 then
        some ((-1), S)
      else
        fX11_person_j70 S x1 x2 x3
    else
      fX11_person_j70 S x1 x2 x3
def fX11_person_j48 (S : St) (x1 : Int32) (x2 : Int32) (x3 : Int32) (x4 : Int32) : Option (Int32 × St) :=
  fX11_person_j49 S x1 x2 x3 x4 0
def fX11_person_j15 (S : St) (x1 : Int32) (x2 : Int32) (x3 : Int32) (s0 : Int32) : Option (Int32 × St) :=
  cal (fX7_has S x2) fun b_1 =>
  if b_1 = 0 then
    fX11_person_j48 S x1 x2 x3 s0
  else
    cal (fX7_has S x3) fun b_4 =>
    if b_4 = 0 then
      fX11_person_j48 S x1 x2 x3 s0
    else
      if x2 = x3 then
        fX11_person_j48 S x1 x2 x3 s0
      else
        fX11_person_j49 S x1 x2 x3 s0 1
def fX11_person_j14 (S : St) (x1 : Int32) (x2 : Int32) (x3 : Int32) : Option (Int32 × St) :=
  fX11_person_j15 S x1 x2 x3 0
def fX11_person (S : St) (p1 : Int32) (p2 : Int32) (p3 : Int32) : Option (Int32 × St) :=
  if p2 = (-1) then
    if p3 = (-1) then
      fX11_person_j15 S p1 p2 p3 1
    else
      fX11_person_j14 S p1 p2 p3
  else
    fX11_person_j14 S p1 p2 p3
-- X11_die
def fX11_die (S : St) (p1 : Int32) (p2 : Int32) : Option (Int32 × St) :=
  cal (fX7_has S p1) fun b_1 =>
  if b_1 = 0 then
    some ((-1), S)
  else
    cal (fX11_isYear S p2) fun b_2 =>
    if b_2 = 0 then
      some ((-1), S)
    else
      gd (ix p1 30) <|
      if (gA S 35 0 p1.toNatClampNeg) = 1000000 then
        gd (ix p1 30) <|
        if (gA S 34 0 p1.toNatClampNeg) ≤ p2 then
          gd (ix p1 30) <|
          bnd (pA S 35 0 p1.toNatClampNeg p2) fun S_3 =>
          some (0, S_3)
        else
          some ((-2), S)
      else
        some ((-2), S)
-- X11_isKin
def fX11_isKin (S : St) (p0 : Int32) : Option Int32 :=
  cal (fX11_within S p0 0 9) fun b_1 =>
  gd (isB b_1) <|
  some b_1
-- X11_founder
def fX11_founder (F : Nat) (S : St) (p1 : Int32) (p2 : Int32) : Option (Int32 × St) :=
  cal (fX7_has S p1) fun b_1 =>
  if b_1 = 0 then
    some ((-1), S)
  else
    cal (fX11_isKin S p2) fun b_2 =>
    if b_2 = 0 then
      some ((-1), S)
    else
      cal (fX7_isFounder S p1 p2) fun b_3 =>
      if b_3 = 0 then
        cal (fX7_addFounder F S p1 p2) fun b_4 =>
        some (b_4.1, b_4.2)
      else
        some ((-2), S)
-- X11_say
def fX11_say (S : St) (p1 : Int32) (p2 : Int32) (p3 : Int32) (p4 : Int32) : Option (Int32 × St) :=
  cal (fX7_has S p1) fun b_1 =>
  if b_1 = 0 then
    some ((-1), S)
  else
    cal (fX7_has S p2) fun b_2 =>
    if b_2 = 0 then
      some ((-1), S)
    else
      if p1 = p2 then
        some ((-1), S)
      else
        cal (fX11_isKin S p3) fun b_3 =>
        if b_3 = 0 then
          some ((-1), S)
        else
          cal (fX7_addSaying S p1 p2 p3 p4) fun b_4 =>
          some (b_4.1, b_4.2)
-- X11_of
def fX11_of (F : Nat) (S : St) (p1 : Int32) (p2 : Int32) : Option Int32 :=
  cal (fX7_has S p1) fun b_1 =>
  if b_1 = 0 then
    some (-1)
  else
    cal (fX11_isKin S p2) fun b_2 =>
    if b_2 = 0 then
      some (-1)
    else
      gd (ix p1 30) <|
      cal (fX11_hasBit S (gA S 39 0 p1.toNatClampNeg) p2) fun b_3 =>
      if b_3 = 0 then
        cal (fX7_isSaidToBe F S p1 p2) fun b_4 =>
        if b_4 = 0 then
          some 0
        else
          some 1
      else
        some 2
-- X11_odds
def fX11_odds (F : Nat) (S : St) (p1 : Int32) (p2 : Int32) : Option Int32 :=
  cal (fX7_has S p1) fun b_1 =>
  if b_1 = 0 then
    some (-1)
  else
    cal (fX11_isKin S p2) fun b_2 =>
    if b_2 = 0 then
      some (-1)
    else
      cal (fX7_pairsAtOdds F S p1 p2) fun b_3 =>
      some b_3
-- X11_block
def fX11_block (S : St) (p1 : Int32) : Option (Int32 × St) :=
  cal (fX11_within S p1 1 1000000) fun b_1 =>
  if b_1 = 0 then
    some ((-1), S)
  else
    cal (fX4_addBlock S p1) fun b_2 =>
    some (b_2.1, b_2.2)
-- X11_paper
def fX11_paper (S : St) (p1 : Int32) (p2 : Int32) (p3 : Int32) : Option (Int32 × St) :=
  cal (fX4_has S p1) fun b_1 =>
  if b_1 = 0 then
    some ((-1), S)
  else
    cal (fX11_within S p2 (-1) 9) fun b_2 =>
    if b_2 = 0 then
      some ((-1), S)
    else
      cal (fX11_isYear S p3) fun b_3 =>
      if b_3 = 0 then
        some ((-1), S)
      else
        cal (fX4_addHolding S p1 0 p2 p3) fun b_4 =>
        some (b_4.1, b_4.2)
-- X11_use
def fX11_use (S : St) (p1 : Int32) (p2 : Int32) (p3 : Int32) : Option (Int32 × St) :=
  cal (fX4_has S p1) fun b_1 =>
  if b_1 = 0 then
    some ((-1), S)
  else
    cal (fX11_within S p2 0 1023) fun b_2 =>
    if b_2 = 0 then
      some ((-1), S)
    else
      cal (fX11_isYear S p3) fun b_3 =>
      if b_3 = 0 then
        some ((-1), S)
      else
        cal (fX4_addHolding S p1 1 p2 p3) fun b_4 =>
        some (b_4.1, b_4.2)
-- X11_holds
def fX11_holds (F : Nat) (S : St) (p1 : Int32) (p2 : Int32) (p3 : Int32) : Option Int32 :=
  cal (fX4_has S p1) fun b_1 =>
  if b_1 = 0 then
    some (-1)
  else
    cal (fX11_isYear S p2) fun b_2 =>
    if b_2 = 0 then
      some (-1)
    else
      cal (fX11_within S p3 0 1) fun b_3 =>
      if b_3 = 0 then
        some (-1)
      else
        if p3 = 1 then
          cal (fX4_usersOf F S p1 p2) fun b_5 =>
          some b_5
        else
          cal (fX4_ownerOf F S p1 p2) fun b_4 =>
          if 0 ≤ b_4 then
            some b_4
          else
            some (-4)
-- X11_deed
def fX11_deed (S : St) (p1 : Int32) (p2 : Int32) (p3 : Int32) (p4 : Int32) : Option (Int32 × St) :=
  cal (fX4_has S p1) fun b_1 =>
  if b_1 = 0 then
    some ((-1), S)
  else
    cal (fX11_isKin S p2) fun b_2 =>
    if b_2 = 0 then
      some ((-1), S)
    else
      cal (fX11_within S p3 0 5) fun b_3 =>
      if b_3 = 0 then
        some ((-1), S)
      else
        cal (fX11_isYear S p4) fun b_4 =>
        if b_4 = 0 then
          some ((-1), S)
        else
          cal (fX4_addDeed S p1 p2 p4) fun b_5 =>
          some (b_5.1, b_5.2)
-- X11_could
def fX11_could (F : Nat) (S : St) (p1 : Int32) : Option Int32 :=
  cal (fX11_within S p1 0 ((gI S 4 0 12) - 1)) fun b_1 =>
  if b_1 = 0 then
    some (-1)
  else
    cal (fX4_rightOfSeller F S p1) fun b_2 =>
    some b_2
-- X11_twice
def fX11_twice (F : Nat) (S : St) (p1 : Int32) : Option Int32 :=
  cal (fX4_has S p1) fun b_1 =>
  if b_1 = 0 then
    some (-1)
  else
    cal (fX4_firstSoldTwice F S p1) fun b_2 =>
    some b_2
-- X11_take
def fX11_take (S : St) (p1 : Int32) (p2 : Int32) (p3 : Int32) : Option (Int32 × St) :=
  cal (fX4_has S p1) fun b_1 =>
  if b_1 = 0 then
    some ((-1), S)
  else
    cal (fX11_isKin S p2) fun b_2 =>
    if b_2 = 0 then
      some ((-1), S)
    else
      cal (fX11_isYear S p3) fun b_3 =>
      if b_3 = 0 then
        some ((-1), S)
      else
        cal (fX4_addTaking S p1 p2 p3) fun b_4 =>
        some (b_4.1, b_4.2)
-- X11_wronged
def fX11_wronged (F : Nat) (S : St) (p1 : Int32) : Option Int32 :=
  cal (fX11_within S p1 0 ((gI S 4 0 16) - 1)) fun b_1 =>
  if b_1 = 0 then
    some (-1)
  else
    cal (fX4_wrongedBy F S p1) fun b_2 =>
    some b_2
-- X11_shares
def fX11_shares (F : Nat) (S : St) (p1 : Int32) (p2 : Int32) (p3 : Int32) : Option (Int32 × St) :=
  cal (fX4_has S p1) fun b_1 =>
  if b_1 = 0 then
    some ((-1), S)
  else
    cal (fX11_isKin S p2) fun b_2 =>
    if b_2 = 0 then
      some ((-1), S)
    else
      cal (fX11_isYear S p3) fun b_3 =>
      if b_3 = 0 then
        some ((-1), S)
      else
        cal (fX7_livingFounders F S p2 p3) fun b_4 =>
        if b_4 = 0 then
          some ((-2), S)
        else
          gd (ix p1 12) <|
          bnd (pA S 21 0 p1.toNatClampNeg p2) fun S_5 =>
          gd (ix p1 12) <|
          bnd (pA S_5 22 0 p1.toNatClampNeg p3) fun S_6 =>
          some (b_4, S_6)
-- X11_share
def fX11_share_b86 (F : Nat) (x2 : Int32) (x3 : Int32) (k107 : St → Option (Int64 × St)) (rec : Int32 → St → Option (Int64 × St)) (x5 : Int32) (S : St) : Option (Int64 × St) :=
  if x3 < x5 then
    k107 S
  else
    cal (fX1_pass F S x5) fun b_5 =>
    rec (x5 + 1) b_5
def fX11_share_L86 (F : Nat) (x2 : Int32) (x3 : Int32) (k107 : St → Option (Int64 × St)) : Nat → Int32 → St → Option (Int64 × St)
  | 0, _, _ => none
  | n + 1, x5, S => fX11_share_b86 F x2 x3 k107 (fX11_share_L86 F x2 x3 k107 n) x5 S
def fX11_share_j27 (F : Nat) (S : St) (x1 : Int32) (x2 : Int32) (x3 : Int32) : Option (Int64 × St) :=
  cal (fX11_isYear S x3) fun b_2 =>
  if b_2 = 0 then
    some ((-1), S)
  else
    gd (ix x1 12) <|
    bnd (gA S 22 0 x1.toNatClampNeg) fun x4_3 =>
    if x4_3 < 0 then
      some ((-2), S)
    else
      if x4_3 ≤ x3 then
        gd (ix x1 12) <|
        cal (fX1_open F S (gA S 21 0 x1.toNatClampNeg) x4_3) fun b_4 =>
        fX11_share_L86 F x2 x3
          (fun S_6 =>
            if x2 = (-1) then
              some (gJ S_6 1 0 2, S_6)
            else
              gd (ix x2 30) <|
              some (gB S_6 18 0 x2.toNatClampNeg, S_6)
          )
          F x4_3 b_4
      else
        some ((-2), S)
def fX11_share (F : Nat) (S : St) (p1 : Int32) (p2 : Int32) (p3 : Int32) : Option (Int64 × St) :=
  cal (fX4_has S p1) fun b_1 =>
  if b_1 = 0 then
    some ((-1), S)
  else
    if p2 = (-1) then
      fX11_share_j27 F S p1 p2 p3
    else
      cal (fX7_has S p2) fun b_7 =>
      if b_7 = 0 then
        some ((-1), S)
      else
        fX11_share_j27 F S p1 p2 p3
-- X11_small
def fX11_small_b60 (F : Nat) (x2 : Int32) (rec : Int32 → St → Option (Int32 × St)) (x4 : Int32) (S : St) : Option (Int32 × St) :=
  if 200 < x4 then
    some ((-4), S)
  else
    cal (fX1_pass F S x4) fun b_5 =>
    cal (fX1_hasLessThanOneOf F b_5 x2) fun b_6 =>
    if b_6 = 0 then
      rec (x4 + 1) b_5
    else
      some (x4, b_5)
def fX11_small_L60 (F : Nat) (x2 : Int32) : Nat → Int32 → St → Option (Int32 × St)
  | 0, _, _ => none
  | n + 1, x4, S => fX11_small_b60 F x2 (fX11_small_L60 F x2 n) x4 S
def fX11_small (F : Nat) (S : St) (p1 : Int32) (p2 : Int32) : Option (Int32 × St) :=
  cal (fX4_has S p1) fun b_1 =>
  if b_1 = 0 then
    some ((-1), S)
  else
    cal (fX11_within S p2 1 1000000) fun b_2 =>
    if b_2 = 0 then
      some ((-1), S)
    else
      gd (ix p1 12) <|
      bnd (gA S 22 0 p1.toNatClampNeg) fun x3_3 =>
      if 0 ≤ x3_3 then
        gd (ix p1 12) <|
        cal (fX1_open F S (gA S 21 0 p1.toNatClampNeg) x3_3) fun b_4 =>
        fX11_small_L60 F p2
          F x3_3 b_4
      else
        some ((-2), S)
-- X11_claim
def fX11_claim_j63 (S : St) (x1 : Int32) (x2 : Int32) (x3 : Int32) (x4 : Int32) (x5 : Int32) (x6 : Int32) (s0 : Int32) : Option (Int32 × St) :=
  if s0 = 0 then
    some ((-1), S)
  else
    cal (fX0_add S x1 x2 x3 x4 x5 x6) fun b_2 =>
    some (b_2.1, b_2.2)
def fX11_claim_j62 (S : St) (x1 : Int32) (x2 : Int32) (x3 : Int32) (x4 : Int32) (x5 : Int32) (x6 : Int32) : Option (Int32 × St) :=
  fX11_claim_j63 S x1 x2 x3 x4 x5 x6 0
def fX11_claim (S : St) (p1 : Int32) (p2 : Int32) (p3 : Int32) (p4 : Int32) (p5 : Int32) (p6 : Int32) : Option (Int32 × St) :=
  cal (fX11_isKin S p1) fun b_1 =>
  if b_1 = 0 then
    fX11_claim_j62 S p1 p2 p3 p4 p5 p6
  else
    cal (fX11_within S p2 1 100) fun b_3 =>
    if b_3 = 0 then
      fX11_claim_j62 S p1 p2 p3 p4 p5 p6
    else
      cal (fX7_has S p3) fun b_4 =>
      if b_4 = 0 then
        fX11_claim_j62 S p1 p2 p3 p4 p5 p6
      else
        cal (fX11_within S p4 1 5) fun b_5 =>
        if b_5 = 0 then
          fX11_claim_j62 S p1 p2 p3 p4 p5 p6
        else
          cal (fX11_isFactSet S p5) fun b_6 =>
          if b_6 = 0 then
            fX11_claim_j62 S p1 p2 p3 p4 p5 p6
          else
            cal (fX11_within S p6 1 1000) fun b_7 =>
            if b_7 = 0 then
              fX11_claim_j62 S p1 p2 p3 p4 p5 p6
            else
              fX11_claim_j63 S p1 p2 p3 p4 p5 p6 1
-- X11_founded
def fX11_founded (F : Nat) (S : St) (p1 : Int32) : Option Int32 :=
  cal (fX11_isFactSet S p1) fun b_1 =>
  if b_1 = 0 then
    some (-1)
  else
    cal (fX0_foundedBy F S p1) fun b_2 =>
    some b_2
-- X11_falls
def fX11_falls (F : Nat) (S : St) (p1 : Int32) (p2 : Int32) : Option Int32 :=
  cal (fX11_isFactSet S p1) fun b_1 =>
  if b_1 = 0 then
    some (-1)
  else
    cal (fX11_within S p2 0 7) fun b_2 =>
    if b_2 = 0 then
      some (-1)
    else
      cal (fX0_foundedBy F S p1) fun b_3 =>
      cal (fX0_foundedBy F S ((255 : Int32) - ((1 : Int32) <<< (p2 &&& 31)))) fun b_4 =>
      some (b_3 &&& (b_4 ^^^ (-1)))
-- X11_hear
def fX11_hear (F : Nat) (S : St) (p1 : Int32) (p2 : Int32) : Option (Int32 × St) :=
  cal (fX11_isYear S p1) fun b_1 =>
  if b_1 = 0 then
    some ((-1), S)
  else
    if (-1) ≤ p2 then
      cal (fX2_arrangeFrom F S p1) fun b_2 =>
      if p2 = (-1) then
        cal (fX0_allWeights F b_2.2) fun b_4 =>
        some (b_4 - b_2.1, b_2.2)
      else
        cal (fX5_claimAt_h F b_2.2 p2) fun b_3 =>
        some (b_3, b_2.2)
    else
      some ((-1), S)
-- X11_left
def fX11_left (F : Nat) (S : St) (p1 : Int32) (p2 : Int32) (p3 : Int32) : Option Int32 :=
  cal (fX11_within S p1 0 ((gI S 0 0 6) - 1)) fun b_1 =>
  if b_1 = 0 then
    some (-1)
  else
    cal (fX11_isYear S p2) fun b_2 =>
    if b_2 = 0 then
      some (-1)
    else
      gd (ix p1 9) <|
      cal (fX4_worthLeft F S (gA S 12 0 p1.toNatClampNeg) p2 p3) fun b_3 =>
      some b_3
-- X11_cousins
def fX11_cousins (F : Nat) (S : St) (p1 : Int32) (p2 : Int32) : Option Int32 :=
  cal (fX11_isKin S p1) fun b_1 =>
  if b_1 = 0 then
    some (-1)
  else
    cal (fX11_isKin S p2) fun b_2 =>
    if b_2 = 0 then
      some (-1)
    else
      if p1 = p2 then
        some (-1)
      else
        cal (fX7_ofBoth F S p1 p2) fun b_3 =>
        some b_3
-- X11_settled
def fX11_settled_b39 (F : Nat) (S : St) (x1 : Int32) (x2 : Int32) (x3 : Int32) (k97 : Int32 → Int32 → Option Int32) (rec : Int32 → Int32 → Int32 → Option Int32) (x4 : Int32) (x5 : Int32) (x6 : Int32) : Option Int32 :=
  if 1024 ≤ x6 then
    k97 x4 x5
  else
    cal (fX11_hasBit S x6 x1) fun b_4 =>
    if b_4 = 0 then
      rec x4 x5 (x6 + 1)
    else
      cal (fJ6_bitCount_0f7a4 S x6) fun b_5 =>
      if b_5 = x2 then
        cal (fX7_cousinsCut F S x6) fun b_6 =>
        if x5 ≤ b_6 then
          rec x4 x5 (x6 + 1)
        else
          rec x6 b_6 (x6 + 1)
      else
        rec x4 x5 (x6 + 1)
def fX11_settled_L39 (F : Nat) (S : St) (x1 : Int32) (x2 : Int32) (x3 : Int32) (k97 : Int32 → Int32 → Option Int32) : Nat → Int32 → Int32 → Int32 → Option Int32
  | 0, _, _, _ => none
  | n + 1, x4, x5, x6 => fX11_settled_b39 F S x1 x2 x3 k97 (fX11_settled_L39 F S x1 x2 x3 k97 n) x4 x5 x6
def fX11_settled (F : Nat) (S : St) (p1 : Int32) (p2 : Int32) (p3 : Int32) : Option Int32 :=
  cal (fX11_isKin S p1) fun b_1 =>
  if b_1 = 0 then
    some (-1)
  else
    cal (fX11_within S p2 1 9) fun b_2 =>
    if b_2 = 0 then
      some (-1)
    else
      cal (fX11_within S p3 0 1) fun b_3 =>
      if b_3 = 0 then
        some (-1)
      else
        fX11_settled_L39 F S p1 p2 p3
          (fun x4_7 x5_8 =>
            if p3 = 0 then
              some x4_7
            else
              some x5_8
          )
          F 0 1000000000 0
-- X11_settlement
def fX11_settlement (S : St) (p1 : Int32) (p2 : Int32) : Option (Int32 × St) :=
  cal (fX11_within S p1 1 100000) fun b_1 =>
  if b_1 = 0 then
    some ((-1), S)
  else
    cal (fX11_within S p2 0 50) fun b_2 =>
    if b_2 = 0 then
      some ((-1), S)
    else
      cal (fX8_add S p1 p2) fun b_3 =>
      some (b_3.1, b_3.2)
-- X11_topped
def fX11_topped (F : Nat) (S : St) (p1 : Int32) : Option Int32 :=
  cal (fX11_within S p1 (-1) ((gI S 7 0 2) - 1)) fun b_1 =>
  if b_1 = 0 then
    some (-1)
  else
    if p1 = (-1) then
      cal (fX8_costOfAll F S) fun b_3 =>
      some b_3
    else
      cal (fX8_toppingOf F S p1) fun b_2 =>
      some b_2
-- X11_plan
def fX11_plan (F : Nat) (S : St) (p1 : Int32) (p2 : Int32) (p3 : Int32) : Option (Int32 × St) :=
  cal (fX11_within S p1 1 1000) fun b_1 =>
  if b_1 = 0 then
    some ((-1), S)
  else
    cal (fX11_isFactSet S p2) fun b_2 =>
    if b_2 = 0 then
      some ((-1), S)
    else
      if (-1) ≤ p3 then
        cal (fX0_foundedBy F S p2) fun b_3 =>
        cal (fX6_arrangeBy F S p1 b_3) fun b_4 =>
        if p3 = (-1) then
          some (b_4.1, b_4.2)
        else
          cal (fX5_claimAt_p F b_4.2 p3) fun b_5 =>
          some (b_5, b_4.2)
      else
        some ((-1), S)
-- X11_count
def fX11_count (S : St) (p1 : Int32) : Option Int32 :=
  if p1 = 0 then
    some (gI S 9 0 6)
  else
  if p1 = 1 then
    some (gI S 9 1 6)
  else
  if p1 = 2 then
    some (gI S 6 0 6)
  else
  if p1 = 3 then
    some (gI S 6 0 11)
  else
  if p1 = 4 then
    some (gI S 4 0 3)
  else
  if p1 = 5 then
    some (gI S 4 0 8)
  else
  if p1 = 6 then
    some (gI S 4 0 12)
  else
  if p1 = 7 then
    some (gI S 4 0 16)
  else
  if p1 = 8 then
    some (gI S 0 0 6)
  else
  if p1 = 9 then
    some (gI S 7 0 2)
  else
  if p1 = 10 then
    some (gI S 8 0 1)
  else
  if p1 = 11 then
    some (gI S 8 1 1)
  else
  some (-1)
-- X12_in
def fX12_in (S : St) (p0 : Int64) (p2 : Int64) (p4 : Int64) : Option Int32 :=
  if (lg_cmp p0 p2) < 0 then
    some 0
  else
    if 0 < (lg_cmp p0 p4) then
      some 0
    else
      some 1
-- X12_has
def fX12_has (S : St) (p0 : Int32) (p1 : Int32) : Option Int32 :=
  if ((p0 >>> (p1 &&& 31)) &&& 1) = 1 then
    some 1
  else
    some 0
-- X12_bits
def fX12_bits_b4 (F : Nat) (S : St) (rec : Int32 → Int32 → Option Int32) (x1 : Int32) (x2 : Int32) : Option Int32 :=
  if x2 = 0 then
    some x1
  else
    bnd (x2 &&& (x2 - 1)) fun x2_1 =>
    rec (x1 + 1) x2_1
def fX12_bits_L4 (F : Nat) (S : St) : Nat → Int32 → Int32 → Option Int32
  | 0, _, _ => none
  | n + 1, x1, x2 => fX12_bits_b4 F S (fX12_bits_L4 F S n) x1 x2
def fX12_bits (F : Nat) (S : St) (p0 : Int32) : Option Int32 :=
  fX12_bits_L4 F S
    F 0 p0
-- X12_isYear
def fX12_isYear (S : St) (p0 : Int32) : Option Int32 :=
  cal (fX12_in S p0.toInt64 0 200) fun b_1 =>
  gd (isB b_1) <|
  some b_1
-- X12_isTongue
def fX12_isTongue (S : St) (p0 : Int32) : Option Int32 :=
  cal (fX12_in S p0.toInt64 0 1) fun b_1 =>
  gd (isB b_1) <|
  some b_1
-- X12_book
def fX12_book (S : St) (p1 : Int32) (p2 : Int32) (p3 : Int32) (p4 : Int32) : Option (Int32 × St) :=
  cal (fX12_isTongue S p1) fun b_1 =>
  if b_1 = 0 then
    some ((-1), S)
  else
    cal (fX12_in S p2.toInt64 0 7) fun b_2 =>
    if b_2 = 0 then
      some ((-1), S)
    else
      cal (fX12_isYear S p3) fun b_3 =>
      if b_3 = 0 then
        some ((-1), S)
      else
        cal (fX12_in S p4.toInt64 0 63) fun b_4 =>
        if b_4 = 0 then
          some ((-1), S)
        else
          gd (ix p1 2) <|
          if (gA S 57 0 p1.toNatClampNeg) = 20 then
            some ((-3), S)
          else
            gd (ix p1 2) <|
            bnd (((60 : Int32) * p1) + ((3 : Int32) * (gA S 57 0 p1.toNatClampNeg))) fun x5_5 =>
            gd (ix x5_5 120) <|
            bnd (pA S 58 0 x5_5.toNatClampNeg p2) fun S_6 =>
            gd (ix (x5_5 + 1) 120) <|
            bnd (pA S_6 58 0 (x5_5 + 1).toNatClampNeg p3) fun S_7 =>
            gd (ix (x5_5 + 2) 120) <|
            bnd (pA S_7 58 0 (x5_5 + 2).toNatClampNeg p4) fun S_8 =>
            gd (ix p1 2) <|
            gd (ix p1 2) <|
            bnd (pA S_8 57 0 p1.toNatClampNeg ((gA S_8 57 0 p1.toNatClampNeg) + 1)) fun S_9 =>
            gd (ix p1 2) <|
            some (gA S_9 57 0 p1.toNatClampNeg, S_9)
-- X12_write
def fX12_write_b43 (F : Nat) (x1 : Int32) (y3 : Int64) (k93 : St → Option (Int32 × St)) (rec : Int32 → St → Option (Int32 × St)) (x5 : Int32) (S : St) : Option (Int32 × St) :=
  if x5 < 0 then
    k93 S
  else
    gd (ix x1 2) <|
    gd (ix (((240 : Int32) * x1) + (gA S 53 0 x1.toNatClampNeg)) 480) <|
    bnd (pA S 54 0 (((240 : Int32) * x1) + (gA S 53 0 x1.toNatClampNeg)).toNatClampNeg ((y3 >>> (((8 : Int32) * x5).toInt64 &&& 63)) &&& 255).toInt32) fun S_4 =>
    gd (ix x1 2) <|
    gd (ix x1 2) <|
    bnd (pA S_4 53 0 x1.toNatClampNeg ((gA S_4 53 0 x1.toNatClampNeg) + 1)) fun S_5 =>
    rec (x5 + (-1)) S_5
def fX12_write_L43 (F : Nat) (x1 : Int32) (y3 : Int64) (k93 : St → Option (Int32 × St)) : Nat → Int32 → St → Option (Int32 × St)
  | 0, _, _ => none
  | n + 1, x5, S => fX12_write_b43 F x1 y3 k93 (fX12_write_L43 F x1 y3 k93 n) x5 S
def fX12_write (F : Nat) (S : St) (p1 : Int32) (p2 : Int32) (p3 : Int64) : Option (Int32 × St) :=
  cal (fX12_isTongue S p1) fun b_1 =>
  if b_1 = 0 then
    some ((-1), S)
  else
    cal (fX12_in S p2.toInt64 1 8) fun b_2 =>
    if b_2 = 0 then
      some ((-1), S)
    else
      gd (ix p1 2) <|
      if ((gA S 53 0 p1.toNatClampNeg) + p2) ≤ 240 then
        bnd (p2 - 1) fun x5_3 =>
        fX12_write_L43 F p1 p3
          (fun S_6 =>
            gd (ix p1 2) <|
            some (gA S_6 53 0 p1.toNatClampNeg, S_6)
          )
          F x5_3 S
      else
        some ((-3), S)
-- X12_wipe
def fX12_wipe (S : St) (p1 : Int32) : Option (Int32 × St) :=
  cal (fX12_isTongue S p1) fun b_1 =>
  if b_1 = 0 then
    some ((-1), S)
  else
    gd (ix p1 2) <|
    bnd (gA S 53 0 p1.toNatClampNeg) fun x2_2 =>
    gd (ix p1 2) <|
    bnd (pA S 53 0 p1.toNatClampNeg 0) fun S_3 =>
    some (x2_2, S_3)
-- X12_byteAt
def fX12_byteAt (S : St) (p1 : Int32) (p2 : Int32) : Option Int32 :=
  gd (ix p1 2) <|
  if (gA S 53 0 p1.toNatClampNeg) ≤ p2 then
    some (-1)
  else
    gd (ix (((240 : Int32) * p1) + p2) 480) <|
    some (gA S 54 0 (((240 : Int32) * p1) + p2).toNatClampNeg)
-- X12_numbers
def fX12_numbers_b13 (F : Nat) (x1 : Int32) (x2 : Int32) (x3 : Int32) (k77 : Int32 → Int32 → St → Option (Int32 × St)) (rec : Int32 → Int32 → St → Option (Int32 × St)) (x4 : Int32) (x5 : Int32) (S : St) : Option (Int32 × St) :=
  cal (fX12_byteAt S x1 (gI S 11 0 28)) fun b_1 =>
  cal (fX12_in S b_1.toInt64 48 57) fun b_2 =>
  if b_2 = 0 then
    k77 x4 x5 S
  else
    if 4 ≤ x4 then
      k77 x4 x5 S
    else
      cal (fX12_byteAt S x1 (gI S 11 0 28)) fun b_3 =>
      bnd ((((10 : Int32) * x5) + b_3) - 48) fun x5_4 =>
      bnd (pI S 11 0 28 ((gI S 11 0 28) + 1)) fun S_5 =>
      rec (x4 + 1) x5_4 S_5
def fX12_numbers_L13 (F : Nat) (x1 : Int32) (x2 : Int32) (x3 : Int32) (k77 : Int32 → Int32 → St → Option (Int32 × St)) : Nat → Int32 → Int32 → St → Option (Int32 × St)
  | 0, _, _, _ => none
  | n + 1, x4, x5, S => fX12_numbers_b13 F x1 x2 x3 k77 (fX12_numbers_L13 F x1 x2 x3 k77 n) x4 x5 S
def fX12_numbers_j113 (F : Nat) (S : St) (x1 : Int32) (x2 : Int32) (x3 : Int32) (x5 : Int32) (s0 : Int32) (s1 : Int32) (rec : Int32 → St → Option (Int32 × St)) : Option (Int32 × St) :=
  if s1 = s0 then
    gd (ix x3 5) <|
    bnd (pA S 73 0 x3.toNatClampNeg x5) fun S_11 =>
    bnd (pI S_11 11 0 28 ((gI S_11 11 0 28) + 1)) fun S_12 =>
    rec (x3 + 1) S_12
  else
    some (0, S)
def fX12_numbers_j77 (F : Nat) (S : St) (x1 : Int32) (x2 : Int32) (x3 : Int32) (x4 : Int32) (x5 : Int32) (rec : Int32 → St → Option (Int32 × St)) : Option (Int32 × St) :=
  cal (fX12_in S x4.toInt64 1 3) fun b_9 =>
  if b_9 = 0 then
    some (0, S)
  else
    cal (fX12_byteAt S x1 (gI S 11 0 28)) fun b_10 =>
    if (x2 - 1) ≤ x3 then
      fX12_numbers_j113 F S x1 x2 x3 x5 59 b_10 rec
    else
      fX12_numbers_j113 F S x1 x2 x3 x5 44 b_10 rec
def fX12_numbers_b2 (F : Nat) (x1 : Int32) (x2 : Int32) (rec : Int32 → St → Option (Int32 × St)) (x3 : Int32) (S : St) : Option (Int32 × St) :=
  if x2 ≤ x3 then
    some (1, S)
  else
    fX12_numbers_L13 F x1 x2 x3
      (fun x4_7 x5_8 S_6 =>
        fX12_numbers_j77 F S_6 x1 x2 x3 x4_7 x5_8 rec
      )
      F 0 0 S
def fX12_numbers_L2 (F : Nat) (x1 : Int32) (x2 : Int32) : Nat → Int32 → St → Option (Int32 × St)
  | 0, _, _ => none
  | n + 1, x3, S => fX12_numbers_b2 F x1 x2 (fX12_numbers_L2 F x1 x2 n) x3 S
def fX12_numbers (F : Nat) (S : St) (p1 : Int32) (p2 : Int32) : Option (Int32 × St) :=
  fX12_numbers_L2 F p1 p2
    F 0 S
-- X12_item
def fX12_item_j117 (F : Nat) (S : St) (x1 : Int32) : Option (Int32 × St) :=
  cal (fX12_numbers F S x1 5) fun b_3 =>
  if b_3.1 = 0 then
    some (0, b_3.2)
  else
    gd (ix 0 5) <|
    cal (fX12_in b_3.2 (gA b_3.2 73 0 (0 : Int32).toNatClampNeg).toInt64 0 7) fun b_4 =>
    if b_4 = 0 then
      some (0, b_3.2)
    else
      gd (ix 1 5) <|
      cal (fX12_in b_3.2 (gA b_3.2 73 0 (1 : Int32).toNatClampNeg).toInt64 0 5) fun b_5 =>
      if b_5 = 0 then
        some (0, b_3.2)
      else
        gd (ix 2 5) <|
        gd (ix 3 5) <|
        cal (fX12_in b_3.2 (gA b_3.2 73 0 (2 : Int32).toNatClampNeg).toInt64 0 (gA b_3.2 73 0 (3 : Int32).toNatClampNeg).toInt64) fun b_6 =>
        if b_6 = 0 then
          some (0, b_3.2)
        else
          gd (ix 3 5) <|
          cal (fX12_isYear b_3.2 (gA b_3.2 73 0 (3 : Int32).toNatClampNeg)) fun b_7 =>
          if b_7 = 0 then
            some (0, b_3.2)
          else
            gd (ix 4 5) <|
            cal (fX12_in b_3.2 (gA b_3.2 73 0 (4 : Int32).toNatClampNeg).toInt64 0 255) fun b_8 =>
            if b_8 = 0 then
              some (0, b_3.2)
            else
              some (1, b_3.2)
def fX12_item_j86 (F : Nat) (S : St) (s0 : Int32) : Option (Int32 × St) :=
  gd (ix 3 5) <|
  bnd (pA S 73 0 (3 : Int32).toNatClampNeg 0) fun S_10 =>
  gd (ix 4 5) <|
  bnd (pA S_10 73 0 (4 : Int32).toNatClampNeg 0) fun S_11 =>
  gd (isB s0) <|
  some (s0, S_11)
def fX12_item_j85 (F : Nat) (S : St) : Option (Int32 × St) :=
  fX12_item_j86 F S 0
def fX12_item (F : Nat) (S : St) (p1 : Int32) : Option (Int32 × St) :=
  cal (fX12_byteAt S p1 (gI S 11 0 28)) fun b_1 =>
  bnd (pI S 11 0 28 ((gI S 11 0 28) + 1)) fun S_2 =>
  if b_1 = 119 then
    cal (fX12_numbers F S_2 p1 3) fun b_9 =>
    if b_9.1 = 0 then
      fX12_item_j85 F b_9.2
    else
      gd (ix 0 5) <|
      cal (fX12_in b_9.2 (gA b_9.2 73 0 (0 : Int32).toNatClampNeg).toInt64 0 7) fun b_12 =>
      if b_12 = 0 then
        fX12_item_j85 F b_9.2
      else
        gd (ix 1 5) <|
        cal (fX12_isYear b_9.2 (gA b_9.2 73 0 (1 : Int32).toNatClampNeg)) fun b_13 =>
        if b_13 = 0 then
          fX12_item_j85 F b_9.2
        else
          gd (ix 2 5) <|
          cal (fX12_in b_9.2 (gA b_9.2 73 0 (2 : Int32).toNatClampNeg).toInt64 0 63) fun b_14 =>
          if b_14 = 0 then
            fX12_item_j85 F b_9.2
          else
            fX12_item_j86 F b_9.2 1
  else
    if b_1 = 108 then
      fX12_item_j117 F S_2 p1
    else
      if b_1 = 98 then
        fX12_item_j117 F S_2 p1
      else
        some (0, S_2)
-- X12_readAll
def fX12_readAll_b69 (F : Nat) (x1 : Int32) (x3 : Int32) (k99 : St → Option (Int32 × St)) (rec : Int32 → St → Option (Int32 × St)) (x4 : Int32) (S : St) : Option (Int32 × St) :=
  if 5 ≤ x4 then
    k99 S
  else
    gd (ix x4 5) <|
    gd (ix ((x3 + 1) + x4) 720) <|
    bnd (pA S 56 0 ((x3 + 1) + x4).toNatClampNeg (gA S 73 0 x4.toNatClampNeg)) fun S_8 =>
    rec (x4 + 1) S_8
def fX12_readAll_L69 (F : Nat) (x1 : Int32) (x3 : Int32) (k99 : St → Option (Int32 × St)) : Nat → Int32 → St → Option (Int32 × St)
  | 0, _, _ => none
  | n + 1, x4, S => fX12_readAll_b69 F x1 x3 k99 (fX12_readAll_L69 F x1 x3 k99 n) x4 S
def fX12_readAll_b12 (F : Nat) (x1 : Int32) (rec : St → Option (Int32 × St)) (S : St) : Option (Int32 × St) :=
  gd (ix x1 2) <|
  if (gA S 53 0 x1.toNatClampNeg) ≤ (gI S 11 0 28) then
    some ((-4), S)
  else
    bnd (gI S 11 0 28) fun x2_3 =>
    cal (fX12_item F S x1) fun b_4 =>
    if b_4.1 = 0 then
      some (x2_3, b_4.2)
    else
      gd (ix 2 3) <|
      bnd ((480 : Int32) + ((6 : Int32) * (gA b_4.2 55 0 (2 : Int32).toNatClampNeg))) fun x3_5 =>
      cal (fX12_byteAt b_4.2 x1 x2_3) fun b_6 =>
      gd (ix x3_5 720) <|
      bnd (pA b_4.2 56 0 x3_5.toNatClampNeg b_6) fun S_7 =>
      fX12_readAll_L69 F x1 x3_5
        (fun S_9 =>
          gd (ix 2 3) <|
          gd (ix 2 3) <|
          bnd (pA S_9 55 0 (2 : Int32).toNatClampNeg ((gA S_9 55 0 (2 : Int32).toNatClampNeg) + 1)) fun S_10 =>
          rec S_10
        )
        F 0 S_7
def fX12_readAll_L12 (F : Nat) (x1 : Int32) : Nat → St → Option (Int32 × St)
  | 0, _ => none
  | n + 1, S => fX12_readAll_b12 F x1 (fX12_readAll_L12 F x1 n) S
def fX12_readAll (F : Nat) (S : St) (p1 : Int32) : Option (Int32 × St) :=
  gd (ix 2 3) <|
  bnd (pA S 55 0 (2 : Int32).toNatClampNeg 0) fun S_1 =>
  bnd (pI S_1 11 0 28 0) fun S_2 =>
  fX12_readAll_L12 F p1
    F S_2
-- X12_fault
def fX12_fault (F : Nat) (S : St) (p1 : Int32) : Option (Int32 × St) :=
  cal (fX12_isTongue S p1) fun b_1 =>
  if b_1 = 0 then
    some ((-1), S)
  else
    cal (fX12_readAll F S p1) fun b_2 =>
    some (b_2.1, b_2.2)
-- X12_force
def fX12_force_b36 (F : Nat) (x1 : Int32) (k71 : St → Option (Int32 × St)) (rec : Int32 → St → Option (Int32 × St)) (x2 : Int32) (S : St) : Option (Int32 × St) :=
  if 240 ≤ x2 then
    k71 S
  else
    gd (ix ((480 : Int32) + x2) 720) <|
    gd (ix (((240 : Int32) * x1) + x2) 720) <|
    bnd (pA S 56 0 (((240 : Int32) * x1) + x2).toNatClampNeg (gA S 56 0 ((480 : Int32) + x2).toNatClampNeg)) fun S_4 =>
    rec (x2 + 1) S_4
def fX12_force_L36 (F : Nat) (x1 : Int32) (k71 : St → Option (Int32 × St)) : Nat → Int32 → St → Option (Int32 × St)
  | 0, _, _ => none
  | n + 1, x2, S => fX12_force_b36 F x1 k71 (fX12_force_L36 F x1 k71 n) x2 S
def fX12_force (F : Nat) (S : St) (p1 : Int32) : Option (Int32 × St) :=
  cal (fX12_isTongue S p1) fun b_1 =>
  if b_1 = 0 then
    some ((-1), S)
  else
    cal (fX12_readAll F S p1) fun b_2 =>
    if b_2.1 = (-4) then
      gd (ix 2 3) <|
      gd (ix p1 3) <|
      bnd (pA b_2.2 55 0 p1.toNatClampNeg (gA b_2.2 55 0 (2 : Int32).toNatClampNeg)) fun S_3 =>
      fX12_force_L36 F p1
        (fun S_5 =>
          gd (ix p1 3) <|
          some (gA S_5 55 0 p1.toNatClampNeg, S_5)
        )
        F 0 S_3
    else
      some ((-2), b_2.2)
-- X12_meaning
def fX12_meaning_b9 (F : Nat) (S : St) (x1 : Int32) (x2 : Int32) (x3 : Int32) (k97 : Int32 → Int32 → Option Int32) (rec : Int32 → Int32 → Int32 → Option Int32) (x4 : Int32) (x5 : Int32) (x6 : Int32) : Option Int32 :=
  gd (ix x1 2) <|
  if (gA S 57 0 x1.toNatClampNeg) ≤ x6 then
    k97 x4 x5
  else
    bnd (((60 : Int32) * x1) + ((3 : Int32) * x6)) fun x7_1 =>
    gd (ix x7_1 120) <|
    if (gA S 58 0 x7_1.toNatClampNeg) = x2 then
      gd (ix (x7_1 + 1) 120) <|
      if x3 < (gA S 58 0 (x7_1 + 1).toNatClampNeg) then
        rec x4 x5 (x6 + 1)
      else
        gd (ix (x7_1 + 1) 120) <|
        if (gA S 58 0 (x7_1 + 1).toNatClampNeg) < x4 then
          rec x4 x5 (x6 + 1)
        else
          gd (ix (x7_1 + 1) 120) <|
          bnd (gA S 58 0 (x7_1 + 1).toNatClampNeg) fun x4_2 =>
          gd (ix (x7_1 + 2) 120) <|
          bnd (gA S 58 0 (x7_1 + 2).toNatClampNeg) fun x5_3 =>
          rec x4_2 x5_3 (x6 + 1)
    else
      rec x4 x5 (x6 + 1)
def fX12_meaning_L9 (F : Nat) (S : St) (x1 : Int32) (x2 : Int32) (x3 : Int32) (k97 : Int32 → Int32 → Option Int32) : Nat → Int32 → Int32 → Int32 → Option Int32
  | 0, _, _, _ => none
  | n + 1, x4, x5, x6 => fX12_meaning_b9 F S x1 x2 x3 k97 (fX12_meaning_L9 F S x1 x2 x3 k97 n) x4 x5 x6
def fX12_meaning_b100 (F : Nat) (S : St) (x1 : Int32) (x2 : Int32) (x3 : Int32) (rec : Int32 → Int32 → Int32 → Option Int32) (x4 : Int32) (x5 : Int32) (x6 : Int32) : Option Int32 :=
  gd (ix x1 3) <|
  if (gA S 55 0 x1.toNatClampNeg) ≤ x6 then
    some x5
  else
    bnd (((240 : Int32) * x1) + ((6 : Int32) * x6)) fun x7_6 =>
    gd (ix x7_6 720) <|
    if (gA S 56 0 x7_6.toNatClampNeg) = 119 then
      gd (ix (x7_6 + 1) 720) <|
      if (gA S 56 0 (x7_6 + 1).toNatClampNeg) = x2 then
        gd (ix (x7_6 + 2) 720) <|
        if x3 < (gA S 56 0 (x7_6 + 2).toNatClampNeg) then
          rec x4 x5 (x6 + 1)
        else
          gd (ix (x7_6 + 2) 720) <|
          if (gA S 56 0 (x7_6 + 2).toNatClampNeg) < x4 then
            rec x4 x5 (x6 + 1)
          else
            gd (ix (x7_6 + 2) 720) <|
            bnd (gA S 56 0 (x7_6 + 2).toNatClampNeg) fun x4_7 =>
            gd (ix (x7_6 + 3) 720) <|
            bnd (gA S 56 0 (x7_6 + 3).toNatClampNeg) fun x5_8 =>
            rec x4_7 x5_8 (x6 + 1)
      else
        rec x4 x5 (x6 + 1)
    else
      rec x4 x5 (x6 + 1)
def fX12_meaning_L100 (F : Nat) (S : St) (x1 : Int32) (x2 : Int32) (x3 : Int32) : Nat → Int32 → Int32 → Int32 → Option Int32
  | 0, _, _, _ => none
  | n + 1, x4, x5, x6 => fX12_meaning_b100 F S x1 x2 x3 (fX12_meaning_L100 F S x1 x2 x3 n) x4 x5 x6
def fX12_meaning (F : Nat) (S : St) (p1 : Int32) (p2 : Int32) (p3 : Int32) : Option Int32 :=
  fX12_meaning_L9 F S p1 p2 p3
    (fun x4_4 x5_5 =>
      fX12_meaning_L100 F S p1 p2 p3
        F x4_4 x5_5 0
    )
    F (-1) 0 0
-- X12_means
def fX12_means (F : Nat) (S : St) (p1 : Int32) (p2 : Int32) (p3 : Int32) : Option Int32 :=
  cal (fX12_isTongue S p1) fun b_1 =>
  if b_1 = 0 then
    some (-1)
  else
    cal (fX12_in S p2.toInt64 0 7) fun b_2 =>
    if b_2 = 0 then
      some (-1)
    else
      cal (fX12_isYear S p3) fun b_3 =>
      if b_3 = 0 then
        some (-1)
      else
        cal (fX12_meaning F S p1 p2 p3) fun b_4 =>
        some b_4
-- X12_layWords
def fX12_layWords_b9 (F : Nat) (x1 : Int32) (x2 : Int32) (k39 : St → Option St) (rec : Int32 → St → Option St) (x3 : Int32) (S : St) : Option St :=
  if 8 ≤ x3 then
    k39 S
  else
    cal (fX12_meaning F S x2 x3 x1) fun b_1 =>
    gd (ix (((8 : Int32) * x2) + x3) 16) <|
    bnd (pA S 74 0 (((8 : Int32) * x2) + x3).toNatClampNeg b_1) fun S_2 =>
    rec (x3 + 1) S_2
def fX12_layWords_L9 (F : Nat) (x1 : Int32) (x2 : Int32) (k39 : St → Option St) : Nat → Int32 → St → Option St
  | 0, _, _ => none
  | n + 1, x3, S => fX12_layWords_b9 F x1 x2 k39 (fX12_layWords_L9 F x1 x2 k39 n) x3 S
def fX12_layWords_b2 (F : Nat) (x1 : Int32) (rec : Int32 → St → Option St) (x2 : Int32) (S : St) : Option St :=
  if 2 ≤ x2 then
    some S
  else
    fX12_layWords_L9 F x1 x2
      (fun S_3 =>
        rec (x2 + 1) S_3
      )
      F 0 S
def fX12_layWords_L2 (F : Nat) (x1 : Int32) : Nat → Int32 → St → Option St
  | 0, _, _ => none
  | n + 1, x2, S => fX12_layWords_b2 F x1 (fX12_layWords_L2 F x1 n) x2 S
def fX12_layWords (F : Nat) (S : St) (p1 : Int32) : Option St :=
  fX12_layWords_L2 F p1
    F 0 S
-- X12_whyOf
def fX12_whyOf_j92 (F : Nat) (S : St) (x1 : Int32) (x2 : Int32) (x3 : Int32) (x4 : Int32) (x5 : Int32) (x6 : Int32) (x7 : Int32) (s0 : Int32) (rec : Int32 → Int32 → Option Int32) : Option Int32 :=
  if s0 = 0 then
    rec x5 (x6 + 1)
  else
    gd (ix (x7 + 1) 720) <|
    gd (ix (((8 : Int32) * x1) + (gA S 56 0 (x7 + 1).toNatClampNeg)) 16) <|
    gd (!(decide (6 = (0 : Int32)))) <|
    cal (fX12_has S (gA S 74 0 (((8 : Int32) * x1) + (gA S 56 0 (x7 + 1).toNatClampNeg)).toNatClampNeg) (x2 / 6)) fun b_2 =>
    if b_2 = 0 then
      rec x5 (x6 + 1)
    else
      gd (ix (x7 + 5) 720) <|
      if ((gA S 56 0 (x7 + 5).toNatClampNeg) &&& (x4 ^^^ (-1))) = 0 then
        rec x6 (x6 + 1)
      else
        rec x5 (x6 + 1)
def fX12_whyOf_j91 (F : Nat) (S : St) (x1 : Int32) (x2 : Int32) (x3 : Int32) (x4 : Int32) (x5 : Int32) (x6 : Int32) (x7 : Int32) (rec : Int32 → Int32 → Option Int32) : Option Int32 :=
  fX12_whyOf_j92 F S x1 x2 x3 x4 x5 x6 x7 0 rec
def fX12_whyOf_b7 (F : Nat) (S : St) (x1 : Int32) (x2 : Int32) (x3 : Int32) (x4 : Int32) (rec : Int32 → Int32 → Option Int32) (x5 : Int32) (x6 : Int32) : Option Int32 :=
  gd (ix x1 3) <|
  if (gA S 55 0 x1.toNatClampNeg) ≤ x6 then
    some x5
  else
    bnd (((240 : Int32) * x1) + ((6 : Int32) * x6)) fun x7_1 =>
    gd (ix x7_1 720) <|
    if (gA S 56 0 x7_1.toNatClampNeg) = 119 then
      fX12_whyOf_j91 F S x1 x2 x3 x4 x5 x6 x7_1 rec
    else
      gd (ix (x7_1 + 2) 720) <|
      gd (!(decide (6 = (0 : Int32)))) <|
      if (gA S 56 0 (x7_1 + 2).toNatClampNeg) = (x2 - x2 / 6 * 6) then
        gd (ix (x7_1 + 3) 720) <|
        gd (ix (x7_1 + 4) 720) <|
        cal (fX12_in S x3.toInt64 (gA S 56 0 (x7_1 + 3).toNatClampNeg).toInt64 (gA S 56 0 (x7_1 + 4).toNatClampNeg).toInt64) fun b_3 =>
        if b_3 = 0 then
          fX12_whyOf_j91 F S x1 x2 x3 x4 x5 x6 x7_1 rec
        else
          fX12_whyOf_j92 F S x1 x2 x3 x4 x5 x6 x7_1 1 rec
      else
        fX12_whyOf_j91 F S x1 x2 x3 x4 x5 x6 x7_1 rec
def fX12_whyOf_L7 (F : Nat) (S : St) (x1 : Int32) (x2 : Int32) (x3 : Int32) (x4 : Int32) : Nat → Int32 → Int32 → Option Int32
  | 0, _, _ => none
  | n + 1, x5, x6 => fX12_whyOf_b7 F S x1 x2 x3 x4 (fX12_whyOf_L7 F S x1 x2 x3 x4 n) x5 x6
def fX12_whyOf (F : Nat) (S : St) (p1 : Int32) (p2 : Int32) (p3 : Int32) (p4 : Int32) : Option Int32 :=
  fX12_whyOf_L7 F S p1 p2 p3 p4
    F (-4) 0
-- X12_isLet
def fX12_isLet (F : Nat) (S : St) (p1 : Int32) (p2 : Int32) (p3 : Int32) (p4 : Int32) : Option Int32 :=
  cal (fX12_whyOf F S p1 p2 p3 p4) fun b_1 =>
  if b_1 = (-4) then
    some 0
  else
    gd (ix (((240 : Int32) * p1) + ((6 : Int32) * b_1)) 720) <|
    if (gA S 56 0 (((240 : Int32) * p1) + ((6 : Int32) * b_1)).toNatClampNeg) = 108 then
      some 1
    else
      some 0
-- X12_isUnlike
def fX12_isUnlike (F : Nat) (S : St) (p1 : Int32) (p2 : Int32) (p3 : Int32) : Option Int32 :=
  cal (fX12_isLet F S 0 p1 p2 p3) fun b_1 =>
  cal (fX12_isLet F S 1 p1 p2 p3) fun b_2 =>
  if b_1 = b_2 then
    some 0
  else
    some 1
-- X12_isAsked
def fX12_isAsked (S : St) (p0 : Int32) (p1 : Int32) (p2 : Int32) (p3 : Int32) (p4 : Int32) : Option Int32 :=
  cal (fX12_isTongue S p0) fun b_1 =>
  if b_1 = 0 then
    some 0
  else
    cal (fX12_in S p1.toInt64 0 5) fun b_2 =>
    if b_2 = 0 then
      some 0
    else
      cal (fX12_in S p2.toInt64 0 5) fun b_3 =>
      if b_3 = 0 then
        some 0
      else
        cal (fX12_isYear S p3) fun b_4 =>
        if b_4 = 0 then
          some 0
        else
          cal (fX12_in S p4.toInt64 0 255) fun b_5 =>
          if b_5 = 0 then
            some 0
          else
            some 1
-- X12_let
def fX12_let (F : Nat) (S : St) (p1 : Int32) (p2 : Int32) (p3 : Int32) (p4 : Int32) (p5 : Int32) : Option (Int32 × St) :=
  cal (fX12_isAsked S p1 p2 p3 p4 p5) fun b_1 =>
  if b_1 = 0 then
    some ((-1), S)
  else
    cal (fX12_layWords F S p4) fun b_2 =>
    cal (fX12_isLet F b_2 p1 (((6 : Int32) * p2) + p3) p4 p5) fun b_3 =>
    if b_3 = 0 then
      some (0, b_2)
    else
      some (1, b_2)
-- X12_why
def fX12_why (F : Nat) (S : St) (p1 : Int32) (p2 : Int32) (p3 : Int32) (p4 : Int32) (p5 : Int32) : Option (Int32 × St) :=
  cal (fX12_isAsked S p1 p2 p3 p4 p5) fun b_1 =>
  if b_1 = 0 then
    some ((-1), S)
  else
    cal (fX12_layWords F S p4) fun b_2 =>
    cal (fX12_whyOf F b_2 p1 (((6 : Int32) * p2) + p3) p4 p5) fun b_3 =>
    some (b_3, b_2)
-- X12_unlike
def fX12_unlike_b37 (F : Nat) (S : St) (x1 : Int32) (x2 : Int32) (x3 : Int32) (k73 : Int32 → Option (Int32 × St)) (rec : Int32 → Int32 → Option (Int32 × St)) (x4 : Int32) (x5 : Int32) : Option (Int32 × St) :=
  if 36 ≤ x5 then
    k73 x4
  else
    cal (fX12_isUnlike F S x5 x1 x2) fun b_4 =>
    if b_4 = 0 then
      rec x4 (x5 + 1)
    else
      if x4 = x3 then
        some (x5, S)
      else
        rec (x4 + 1) (x5 + 1)
def fX12_unlike_L37 (F : Nat) (S : St) (x1 : Int32) (x2 : Int32) (x3 : Int32) (k73 : Int32 → Option (Int32 × St)) : Nat → Int32 → Int32 → Option (Int32 × St)
  | 0, _, _ => none
  | n + 1, x4, x5 => fX12_unlike_b37 F S x1 x2 x3 k73 (fX12_unlike_L37 F S x1 x2 x3 k73 n) x4 x5
def fX12_unlike (F : Nat) (S : St) (p1 : Int32) (p2 : Int32) (p3 : Int32) : Option (Int32 × St) :=
  cal (fX12_isYear S p1) fun b_1 =>
  if b_1 = 0 then
    some ((-1), S)
  else
    cal (fX12_in S p2.toInt64 0 255) fun b_2 =>
    if b_2 = 0 then
      some ((-1), S)
    else
      if (-1) ≤ p3 then
        cal (fX12_layWords F S p1) fun b_3 =>
        fX12_unlike_L37 F b_3 p1 p2 p3
          (fun x4_5 =>
            if 0 ≤ p3 then
              some ((-4), b_3)
            else
              some (x4_5, b_3)
          )
          F 0 0
      else
        some ((-1), S)
-- X12_least
def fX12_least_j58 (F : Nat) (S : St) (x1 : Int32) (x2 : Int32) (x3 : Int32) (x4 : Int32) (rec : Int32 → Int32 → Option (Int32 × St)) : Option (Int32 × St) :=
  cal (fX12_isUnlike F S x1 x2 x4) fun b_4 =>
  if b_4 = 0 then
    rec x3 (x4 + 1)
  else
    rec x4 (x4 + 1)
def fX12_least_b32 (F : Nat) (S : St) (x1 : Int32) (x2 : Int32) (rec : Int32 → Int32 → Option (Int32 × St)) (x3 : Int32) (x4 : Int32) : Option (Int32 × St) :=
  if 256 ≤ x4 then
    some (x3, S)
  else
    if x3 = (-4) then
      fX12_least_j58 F S x1 x2 x3 x4 rec
    else
      cal (fX12_bits F S x4) fun b_5 =>
      cal (fX12_bits F S x3) fun b_6 =>
      if b_6 ≤ b_5 then
        rec x3 (x4 + 1)
      else
        fX12_least_j58 F S x1 x2 x3 x4 rec
def fX12_least_L32 (F : Nat) (S : St) (x1 : Int32) (x2 : Int32) : Nat → Int32 → Int32 → Option (Int32 × St)
  | 0, _, _ => none
  | n + 1, x3, x4 => fX12_least_b32 F S x1 x2 (fX12_least_L32 F S x1 x2 n) x3 x4
def fX12_least (F : Nat) (S : St) (p1 : Int32) (p2 : Int32) : Option (Int32 × St) :=
  cal (fX12_in S p1.toInt64 0 35) fun b_1 =>
  if b_1 = 0 then
    some ((-1), S)
  else
    cal (fX12_isYear S p2) fun b_2 =>
    if b_2 = 0 then
      some ((-1), S)
    else
      cal (fX12_layWords F S p2) fun b_3 =>
      fX12_least_L32 F b_3 p1 p2
        F (-4) 0
-- X12_doneBy
def fX12_doneBy_j110 (F : Nat) (S : St) (x1 : Int32) (x2 : Int32) (x3 : Int32) (x5 : Int32) (x6 : Int32) (s0 : Int32) (s1 : Int32) (rec : Int32 → Int32 → St → Option (Int32 × St)) : Option (Int32 × St) :=
  bnd (s1 ||| s0) fun x4_9 =>
  gd (ix x5 16) <|
  bnd (pA S 74 0 x5.toNatClampNeg x6) fun S_10 =>
  rec x4_9 (x5 + 1) S_10
def fX12_doneBy_b57 (F : Nat) (x1 : Int32) (x2 : Int32) (x3 : Int32) (rec : Int32 → Int32 → St → Option (Int32 × St)) (x4 : Int32) (x5 : Int32) (S : St) : Option (Int32 × St) :=
  if 8 ≤ x5 then
    some (x4, S)
  else
    gd (ix x5 16) <|
    bnd (gA S 74 0 x5.toNatClampNeg) fun x6_6 =>
    gd (ix ((8 : Int32) + x5) 16) <|
    gd (ix x5 16) <|
    bnd (pA S 74 0 x5.toNatClampNeg (gA S 74 0 ((8 : Int32) + x5).toNatClampNeg)) fun S_7 =>
    cal (fX12_isUnlike F S_7 x1 x2 x3) fun b_8 =>
    if b_8 = 0 then
      fX12_doneBy_j110 F S_7 x1 x2 x3 x5 x6_6 ((1 : Int32) <<< (x5 &&& 31)) x4 rec
    else
      fX12_doneBy_j110 F S_7 x1 x2 x3 x5 x6_6 0 x4 rec
def fX12_doneBy_L57 (F : Nat) (x1 : Int32) (x2 : Int32) (x3 : Int32) : Nat → Int32 → Int32 → St → Option (Int32 × St)
  | 0, _, _, _ => none
  | n + 1, x4, x5, S => fX12_doneBy_b57 F x1 x2 x3 (fX12_doneBy_L57 F x1 x2 x3 n) x4 x5 S
def fX12_doneBy (F : Nat) (S : St) (p1 : Int32) (p2 : Int32) (p3 : Int32) : Option (Int32 × St) :=
  cal (fX12_in S p1.toInt64 0 35) fun b_1 =>
  if b_1 = 0 then
    some ((-1), S)
  else
    cal (fX12_isYear S p2) fun b_2 =>
    if b_2 = 0 then
      some ((-1), S)
    else
      cal (fX12_in S p3.toInt64 0 255) fun b_3 =>
      if b_3 = 0 then
        some ((-1), S)
      else
        cal (fX12_layWords F S p2) fun b_4 =>
        cal (fX12_isUnlike F b_4 p1 p2 p3) fun b_5 =>
        if b_5 = 0 then
          some ((-2), b_4)
        else
          fX12_doneBy_L57 F p1 p2 p3
            F 0 0 b_4
-- X12_isPerson
def fX12_isPerson (S : St) (p1 : Int32) : Option Int32 :=
  cal (fX12_in S p1.toInt64 0 ((gI S 11 0 6) - 1).toInt64) fun b_1 =>
  gd (isB b_1) <|
  some b_1
-- X12_isKin
def fX12_isKin (S : St) (p0 : Int32) : Option Int32 :=
  cal (fX12_in S p0.toInt64 0 9) fun b_1 =>
  gd (isB b_1) <|
  some b_1
-- X12_person
def fX12_person_j52 (S : St) (x1 : Int32) (x2 : Int32) (x3 : Int32) : Option (Int32 × St) :=
  if (gI S 11 0 6) = 30 then
    some ((-3), S)
  else
    gd (ix (gI S 11 0 6) 30) <|
    bnd (pA S 59 0 (gI S 11 0 6).toNatClampNeg x1) fun S_2 =>
    gd (ix ((2 : Int32) * (gI S_2 11 0 6)) 60) <|
    bnd (pA S_2 60 0 ((2 : Int32) * (gI S_2 11 0 6)).toNatClampNeg x2) fun S_3 =>
    gd (ix (((2 : Int32) * (gI S_3 11 0 6)) + 1) 60) <|
    bnd (pA S_3 60 0 (((2 : Int32) * (gI S_3 11 0 6)) + 1).toNatClampNeg x3) fun S_4 =>
    gd (ix (gI S_4 11 0 6) 30) <|
    bnd (pA S_4 61 0 (gI S_4 11 0 6).toNatClampNeg 1000000) fun S_5 =>
    gd (ix (gI S_5 11 0 6) 30) <|
    bnd (pA S_5 62 0 (gI S_5 11 0 6).toNatClampNeg 0) fun S_6 =>
    bnd (pI S_6 11 0 6 ((gI S_6 11 0 6) + 1)) fun S_7 =>
    some ((gI S_7 11 0 6) - 1, S_7)
def fX12_person_j15 (S : St) (x1 : Int32) (x2 : Int32) (x3 : Int32) (s0 : Int32) : Option (Int32 × St) :=
  cal (fX12_isYear S x1) fun b_1 =>
  if b_1 = 0 then
    some ((-1), S)
  else
    if s0 = 0 then
      cal (fX12_isPerson S x2) fun b_8 =>
      if b_8 = 0 then
        some ((-1), S)
      else
        cal (fX12_isPerson S x3) fun b_9 =>
        if b_9 = 0 then
          some ((-1), S)
        else
          if x2 = x3 then
            some ((-1), S)
          else
            fX12_person_j52 S x1 x2 x3
    else
      fX12_person_j52 S x1 x2 x3
def fX12_person_j14 (S : St) (x1 : Int32) (x2 : Int32) (x3 : Int32) : Option (Int32 × St) :=
  fX12_person_j15 S x1 x2 x3 0
def fX12_person (S : St) (p1 : Int32) (p2 : Int32) (p3 : Int32) : Option (Int32 × St) :=
  if p2 = (-1) then
    if p3 = (-1) then
      fX12_person_j15 S p1 p2 p3 1
    else
      fX12_person_j14 S p1 p2 p3
  else
    fX12_person_j14 S p1 p2 p3
-- X12_die
def fX12_die (S : St) (p1 : Int32) (p2 : Int32) : Option (Int32 × St) :=
  cal (fX12_isPerson S p1) fun b_1 =>
  if b_1 = 0 then
    some ((-1), S)
  else
    cal (fX12_isYear S p2) fun b_2 =>
    if b_2 = 0 then
      some ((-1), S)
    else
      gd (ix p1 30) <|
      if (gA S 61 0 p1.toNatClampNeg) < 1000000 then
        some ((-2), S)
      else
        gd (ix p1 30) <|
        if (gA S 59 0 p1.toNatClampNeg) ≤ p2 then
          gd (ix p1 30) <|
          bnd (pA S 61 0 p1.toNatClampNeg p2) fun S_3 =>
          some (0, S_3)
        else
          some ((-2), S)
-- X12_founder
def fX12_founder_b50 (F : Nat) (S : St) (x2 : Int32) (rec : Int32 → Int32 → Option (Int32 × St)) (x3 : Int32) (x4 : Int32) : Option (Int32 × St) :=
  if (gI S 11 0 6) ≤ x4 then
    some (x3, S)
  else
    gd (ix x4 30) <|
    cal (fX12_has S (gA S 62 0 x4.toNatClampNeg) x2) fun b_5 =>
    if b_5 = 0 then
      bnd (x3 + 0) fun x3_6 =>
      rec x3_6 (x4 + 1)
    else
      bnd (x3 + 1) fun x3_7 =>
      rec x3_7 (x4 + 1)
def fX12_founder_L50 (F : Nat) (S : St) (x2 : Int32) : Nat → Int32 → Int32 → Option (Int32 × St)
  | 0, _, _ => none
  | n + 1, x3, x4 => fX12_founder_b50 F S x2 (fX12_founder_L50 F S x2 n) x3 x4
def fX12_founder (F : Nat) (S : St) (p1 : Int32) (p2 : Int32) : Option (Int32 × St) :=
  cal (fX12_isPerson S p1) fun b_1 =>
  if b_1 = 0 then
    some ((-1), S)
  else
    cal (fX12_isKin S p2) fun b_2 =>
    if b_2 = 0 then
      some ((-1), S)
    else
      gd (ix p1 30) <|
      cal (fX12_has S (gA S 62 0 p1.toNatClampNeg) p2) fun b_3 =>
      if b_3 = 0 then
        gd (ix p1 30) <|
        gd (ix p1 30) <|
        bnd (pA S 62 0 p1.toNatClampNeg ((gA S 62 0 p1.toNatClampNeg) ||| ((1 : Int32) <<< (p2 &&& 31)))) fun S_4 =>
        fX12_founder_L50 F S_4 p2
          F 0 0
      else
        some ((-2), S)
-- X12_say
def fX12_say_j96 (S : St) (s0 : Int32) (s1 : Int32) : Option (Int32 × St) :=
  gd (ix s1 80) <|
  bnd (pA S 63 0 s1.toNatClampNeg s0) fun S_8 =>
  bnd (pI S_8 11 0 11 ((gI S_8 11 0 11) + 1)) fun S_9 =>
  some (gI S_9 11 0 11, S_9)
def fX12_say (S : St) (p1 : Int32) (p2 : Int32) (p3 : Int32) (p4 : Int32) : Option (Int32 × St) :=
  cal (fX12_isPerson S p1) fun b_1 =>
  if b_1 = 0 then
    some ((-1), S)
  else
    cal (fX12_isPerson S p2) fun b_2 =>
    if b_2 = 0 then
      some ((-1), S)
    else
      if p1 = p2 then
        some ((-1), S)
      else
        cal (fX12_isKin S p3) fun b_3 =>
        if b_3 = 0 then
          some ((-1), S)
        else
          if (gI S 11 0 11) = 20 then
            some ((-3), S)
          else
            bnd ((4 : Int32) * (gI S 11 0 11)) fun x5_4 =>
            gd (ix x5_4 80) <|
            bnd (pA S 63 0 x5_4.toNatClampNeg p1) fun S_5 =>
            gd (ix (x5_4 + 1) 80) <|
            bnd (pA S_5 63 0 (x5_4 + 1).toNatClampNeg p2) fun S_6 =>
            gd (ix (x5_4 + 2) 80) <|
            bnd (pA S_6 63 0 (x5_4 + 2).toNatClampNeg p3) fun S_7 =>
            if p4 = 0 then
              fX12_say_j96 S_7 0 (x5_4 + 3)
            else
              fX12_say_j96 S_7 1 (x5_4 + 3)
-- X12_layKins
def fX12_layKins_j66 (F : Nat) (S : St) (x1 : Int32) (x2 : Int32) (s0 : Int32) (s1 : Int32) (s2 : Int32) (rec : Int32 → St → Option St) : Option St :=
  gd (ix s2 30) <|
  bnd (pA S 75 0 s2.toNatClampNeg (s1 ||| s0)) fun S_3 =>
  rec (x2 + 1) S_3
def fX12_layKins_b26 (F : Nat) (x1 : Int32) (k74 : St → Option St) (rec : Int32 → St → Option St) (x2 : Int32) (S : St) : Option St :=
  if (((2 : Int32) * x1) + 2) ≤ x2 then
    k74 S
  else
    gd (ix x1 30) <|
    gd (ix x2 60) <|
    if (gA S 60 0 x2.toNatClampNeg) < 0 then
      fX12_layKins_j66 F S x1 x2 0 (gA S 75 0 x1.toNatClampNeg) x1 rec
    else
      gd (ix x2 60) <|
      gd (ix (gA S 60 0 x2.toNatClampNeg) 30) <|
      fX12_layKins_j66 F S x1 x2 (gA S 75 0 (gA S 60 0 x2.toNatClampNeg).toNatClampNeg) (gA S 75 0 x1.toNatClampNeg) x1 rec
def fX12_layKins_L26 (F : Nat) (x1 : Int32) (k74 : St → Option St) : Nat → Int32 → St → Option St
  | 0, _, _ => none
  | n + 1, x2, S => fX12_layKins_b26 F x1 k74 (fX12_layKins_L26 F x1 k74 n) x2 S
def fX12_layKins_b2 (F : Nat) (rec : Int32 → St → Option St) (x1 : Int32) (S : St) : Option St :=
  if (gI S 11 0 6) ≤ x1 then
    some S
  else
    gd (ix x1 30) <|
    gd (ix x1 30) <|
    bnd (pA S 75 0 x1.toNatClampNeg (gA S 62 0 x1.toNatClampNeg)) fun S_1 =>
    bnd ((2 : Int32) * x1) fun x2_2 =>
    fX12_layKins_L26 F x1
      (fun S_4 =>
        rec (x1 + 1) S_4
      )
      F x2_2 S_1
def fX12_layKins_L2 (F : Nat) : Nat → Int32 → St → Option St
  | 0, _, _ => none
  | n + 1, x1, S => fX12_layKins_b2 F (fX12_layKins_L2 F n) x1 S
def fX12_layKins (F : Nat) (S : St) : Option St :=
  fX12_layKins_L2 F
    F 0 S
-- X12_of
def fX12_of_b41 (F : Nat) (S : St) (x1 : Int32) (x2 : Int32) (rec : Int32 → Int32 → Option (Int32 × St)) (x3 : Int32) (x4 : Int32) : Option (Int32 × St) :=
  if ((4 : Int32) * (gI S 11 0 11)) ≤ x4 then
    some (x3, S)
  else
    gd (ix (x4 + 1) 80) <|
    if (gA S 63 0 (x4 + 1).toNatClampNeg) = x1 then
      gd (ix (x4 + 2) 80) <|
      if (gA S 63 0 (x4 + 2).toNatClampNeg) = x2 then
        gd (ix (x4 + 3) 80) <|
        bnd (gA S 63 0 (x4 + 3).toNatClampNeg) fun x3_5 =>
        rec x3_5 (x4 + 4)
      else
        rec x3 (x4 + 4)
    else
      rec x3 (x4 + 4)
def fX12_of_L41 (F : Nat) (S : St) (x1 : Int32) (x2 : Int32) : Nat → Int32 → Int32 → Option (Int32 × St)
  | 0, _, _ => none
  | n + 1, x3, x4 => fX12_of_b41 F S x1 x2 (fX12_of_L41 F S x1 x2 n) x3 x4
def fX12_of (F : Nat) (S : St) (p1 : Int32) (p2 : Int32) : Option (Int32 × St) :=
  cal (fX12_isPerson S p1) fun b_1 =>
  if b_1 = 0 then
    some ((-1), S)
  else
    cal (fX12_isKin S p2) fun b_2 =>
    if b_2 = 0 then
      some ((-1), S)
    else
      cal (fX12_layKins F S) fun b_3 =>
      gd (ix p1 30) <|
      cal (fX12_has b_3 (gA b_3 75 0 p1.toNatClampNeg) p2) fun b_4 =>
      if b_4 = 0 then
        fX12_of_L41 F b_3 p1 p2
          F 0 0
      else
        some (2, b_3)
-- X12_odds
def fX12_odds_b41 (F : Nat) (S : St) (x1 : Int32) (x2 : Int32) (x3 : Int32) (x4 : Int32) (x5 : Int32) (k112 : Int32 → Option Int32) (rec : Int32 → Int32 → Option Int32) (x6 : Int32) (x7 : Int32) : Option Int32 :=
  if ((4 : Int32) * (gI S 11 0 11)) ≤ x7 then
    k112 x6
  else
    gd (ix x7 80) <|
    if (gA S 63 0 x7.toNatClampNeg) = x5 then
      gd (ix (x7 + 1) 80) <|
      if (gA S 63 0 (x7 + 1).toNatClampNeg) = x1 then
        gd (ix (x7 + 2) 80) <|
        if (gA S 63 0 (x7 + 2).toNatClampNeg) = x2 then
          gd (ix (x7 + 3) 80) <|
          bnd (gA S 63 0 (x7 + 3).toNatClampNeg) fun x6_3 =>
          rec x6_3 (x7 + 4)
        else
          rec x6 (x7 + 4)
      else
        rec x6 (x7 + 4)
    else
      rec x6 (x7 + 4)
def fX12_odds_L41 (F : Nat) (S : St) (x1 : Int32) (x2 : Int32) (x3 : Int32) (x4 : Int32) (x5 : Int32) (k112 : Int32 → Option Int32) : Nat → Int32 → Int32 → Option Int32
  | 0, _, _ => none
  | n + 1, x6, x7 => fX12_odds_b41 F S x1 x2 x3 x4 x5 k112 (fX12_odds_L41 F S x1 x2 x3 x4 x5 k112 n) x6 x7
def fX12_odds_j124 (F : Nat) (S : St) (x1 : Int32) (x2 : Int32) (x4 : Int32) (x5 : Int32) (x6 : Int32) (s0 : Int32) (s1 : Int32) (rec : Int32 → Int32 → Int32 → Option Int32) : Option Int32 :=
  bnd (s1 + s0) fun x3_5 =>
  if x6 = 0 then
    bnd (x4 + 1) fun x4_7 =>
    rec x3_5 x4_7 (x5 + 1)
  else
    bnd (x4 + 0) fun x4_6 =>
    rec x3_5 x4_6 (x5 + 1)
def fX12_odds_b25 (F : Nat) (S : St) (x1 : Int32) (x2 : Int32) (k147 : Int32 → Int32 → Option Int32) (rec : Int32 → Int32 → Int32 → Option Int32) (x3 : Int32) (x4 : Int32) (x5 : Int32) : Option Int32 :=
  if (gI S 11 0 6) ≤ x5 then
    k147 x3 x4
  else
    fX12_odds_L41 F S x1 x2 x3 x4 x5
      (fun x6_4 =>
        if x6_4 = 1 then
          fX12_odds_j124 F S x1 x2 x4 x5 x6_4 1 x3 rec
        else
          fX12_odds_j124 F S x1 x2 x4 x5 x6_4 0 x3 rec
      )
      F (-4) 0
def fX12_odds_L25 (F : Nat) (S : St) (x1 : Int32) (x2 : Int32) (k147 : Int32 → Int32 → Option Int32) : Nat → Int32 → Int32 → Int32 → Option Int32
  | 0, _, _, _ => none
  | n + 1, x3, x4, x5 => fX12_odds_b25 F S x1 x2 k147 (fX12_odds_L25 F S x1 x2 k147 n) x3 x4 x5
def fX12_odds (F : Nat) (S : St) (p1 : Int32) (p2 : Int32) : Option Int32 :=
  cal (fX12_isPerson S p1) fun b_1 =>
  if b_1 = 0 then
    some (-1)
  else
    cal (fX12_isKin S p2) fun b_2 =>
    if b_2 = 0 then
      some (-1)
    else
      fX12_odds_L25 F S p1 p2
        (fun x3_8 x4_9 =>
          some (x3_8 * x4_9)
        )
        F 0 0 0
-- X12_isBlock
def fX12_isBlock (S : St) (p1 : Int32) : Option Int32 :=
  cal (fX12_in S p1.toInt64 0 ((gI S 11 0 13) - 1).toInt64) fun b_1 =>
  gd (isB b_1) <|
  some b_1
-- X12_block
def fX12_block (S : St) (p1 : Int32) : Option (Int32 × St) :=
  cal (fX12_in S p1.toInt64 1 1000000) fun b_1 =>
  if b_1 = 0 then
    some ((-1), S)
  else
    if (gI S 11 0 13) = 12 then
      some ((-3), S)
    else
      gd (ix (gI S 11 0 13) 12) <|
      bnd (pA S 64 0 (gI S 11 0 13).toNatClampNeg p1) fun S_2 =>
      bnd (pI S_2 11 0 13 ((gI S_2 11 0 13) + 1)) fun S_3 =>
      some ((gI S_3 11 0 13) - 1, S_3)
-- X12_hold
def fX12_hold (S : St) (p1 : Int32) (p2 : Int32) (p3 : Int32) (p4 : Int32) : Option (Int32 × St) :=
  if (gI S 11 0 15) = 60 then
    some ((-3), S)
  else
    bnd ((4 : Int32) * (gI S 11 0 15)) fun x5_1 =>
    gd (ix x5_1 240) <|
    bnd (pA S 65 0 x5_1.toNatClampNeg p1) fun S_2 =>
    gd (ix (x5_1 + 1) 240) <|
    bnd (pA S_2 65 0 (x5_1 + 1).toNatClampNeg p2) fun S_3 =>
    gd (ix (x5_1 + 2) 240) <|
    bnd (pA S_3 65 0 (x5_1 + 2).toNatClampNeg p3) fun S_4 =>
    gd (ix (x5_1 + 3) 240) <|
    bnd (pA S_4 65 0 (x5_1 + 3).toNatClampNeg p4) fun S_5 =>
    bnd (pI S_5 11 0 15 ((gI S_5 11 0 15) + 1)) fun S_6 =>
    some (gI S_6 11 0 15, S_6)
-- X12_paper
def fX12_paper (S : St) (p1 : Int32) (p2 : Int32) (p3 : Int32) : Option (Int32 × St) :=
  cal (fX12_isBlock S p1) fun b_1 =>
  if b_1 = 0 then
    some ((-1), S)
  else
    cal (fX12_in S p2.toInt64 (-1) 9) fun b_2 =>
    if b_2 = 0 then
      some ((-1), S)
    else
      cal (fX12_isYear S p3) fun b_3 =>
      if b_3 = 0 then
        some ((-1), S)
      else
        cal (fX12_hold S p1 0 p2 p3) fun b_4 =>
        some (b_4.1, b_4.2)
-- X12_use
def fX12_use (S : St) (p1 : Int32) (p2 : Int32) (p3 : Int32) : Option (Int32 × St) :=
  cal (fX12_isBlock S p1) fun b_1 =>
  if b_1 = 0 then
    some ((-1), S)
  else
    cal (fX12_in S p2.toInt64 0 1023) fun b_2 =>
    if b_2 = 0 then
      some ((-1), S)
    else
      cal (fX12_isYear S p3) fun b_3 =>
      if b_3 = 0 then
        some ((-1), S)
      else
        cal (fX12_hold S p1 1 p2 p3) fun b_4 =>
        some (b_4.1, b_4.2)
-- X12_heldBy
def fX12_heldBy_b17 (F : Nat) (S : St) (x1 : Int32) (x2 : Int32) (x3 : Int32) (rec : Int32 → Int32 → Int32 → Option Int32) (x4 : Int32) (x5 : Int32) (x6 : Int32) : Option Int32 :=
  if ((4 : Int32) * (gI S 11 0 15)) ≤ x6 then
    some x5
  else
    gd (ix x6 240) <|
    if (gA S 65 0 x6.toNatClampNeg) = x1 then
      gd (ix (x6 + 1) 240) <|
      if (gA S 65 0 (x6 + 1).toNatClampNeg) = x3 then
        gd (ix (x6 + 3) 240) <|
        if x2 < (gA S 65 0 (x6 + 3).toNatClampNeg) then
          rec x4 x5 (x6 + 4)
        else
          gd (ix (x6 + 3) 240) <|
          if (gA S 65 0 (x6 + 3).toNatClampNeg) < x4 then
            rec x4 x5 (x6 + 4)
          else
            gd (ix (x6 + 3) 240) <|
            bnd (gA S 65 0 (x6 + 3).toNatClampNeg) fun x4_1 =>
            gd (ix (x6 + 2) 240) <|
            bnd (gA S 65 0 (x6 + 2).toNatClampNeg) fun x5_2 =>
            rec x4_1 x5_2 (x6 + 4)
      else
        rec x4 x5 (x6 + 4)
    else
      rec x4 x5 (x6 + 4)
def fX12_heldBy_L17 (F : Nat) (S : St) (x1 : Int32) (x2 : Int32) (x3 : Int32) : Nat → Int32 → Int32 → Int32 → Option Int32
  | 0, _, _, _ => none
  | n + 1, x4, x5, x6 => fX12_heldBy_b17 F S x1 x2 x3 (fX12_heldBy_L17 F S x1 x2 x3 n) x4 x5 x6
def fX12_heldBy_j12 (F : Nat) (S : St) (x1 : Int32) (x2 : Int32) (x3 : Int32) (x4 : Int32) (s0 : Int32) : Option Int32 :=
  fX12_heldBy_L17 F S x1 x2 x3
    F x4 s0 0
def fX12_heldBy (F : Nat) (S : St) (p1 : Int32) (p2 : Int32) (p3 : Int32) : Option Int32 :=
  if p3 = 0 then
    fX12_heldBy_j12 F S p1 p2 p3 (-1) (-1)
  else
    fX12_heldBy_j12 F S p1 p2 p3 (-1) 0
-- X12_holds
def fX12_holds (F : Nat) (S : St) (p1 : Int32) (p2 : Int32) (p3 : Int32) : Option Int32 :=
  cal (fX12_isBlock S p1) fun b_1 =>
  if b_1 = 0 then
    some (-1)
  else
    cal (fX12_isYear S p2) fun b_2 =>
    if b_2 = 0 then
      some (-1)
    else
      cal (fX12_in S p3.toInt64 0 1) fun b_3 =>
      if b_3 = 0 then
        some (-1)
      else
        cal (fX12_heldBy F S p1 p2 p3) fun b_4 =>
        if 0 ≤ b_4 then
          some b_4
        else
          some (-4)
-- X12_deed
def fX12_deed (S : St) (p1 : Int32) (p2 : Int32) (p3 : Int32) (p4 : Int32) : Option (Int32 × St) :=
  cal (fX12_isBlock S p1) fun b_1 =>
  if b_1 = 0 then
    some ((-1), S)
  else
    cal (fX12_isKin S p2) fun b_2 =>
    if b_2 = 0 then
      some ((-1), S)
    else
      cal (fX12_in S p3.toInt64 0 5) fun b_3 =>
      if b_3 = 0 then
        some ((-1), S)
      else
        cal (fX12_isYear S p4) fun b_4 =>
        if b_4 = 0 then
          some ((-1), S)
        else
          if (gI S 11 0 17) = 20 then
            some ((-3), S)
          else
            bnd ((4 : Int32) * (gI S 11 0 17)) fun x5_5 =>
            gd (ix x5_5 80) <|
            bnd (pA S 66 0 x5_5.toNatClampNeg p1) fun S_6 =>
            gd (ix (x5_5 + 1) 80) <|
            bnd (pA S_6 66 0 (x5_5 + 1).toNatClampNeg p2) fun S_7 =>
            gd (ix (x5_5 + 2) 80) <|
            bnd (pA S_7 66 0 (x5_5 + 2).toNatClampNeg p3) fun S_8 =>
            gd (ix (x5_5 + 3) 80) <|
            bnd (pA S_8 66 0 (x5_5 + 3).toNatClampNeg p4) fun S_9 =>
            bnd (pI S_9 11 0 17 ((gI S_9 11 0 17) + 1)) fun S_10 =>
            some ((gI S_10 11 0 17) - 1, S_10)
-- X12_could
def fX12_could_j102 (F : Nat) (S : St) (x3 : Int32) (x4 : Int32) (x5 : Int32) : Option Int32 :=
  if x4 = 0 then
    cal (fX12_has S x5 x3) fun b_6 =>
    if b_6 = 0 then
      some 0
    else
      some 1
  else
    some 1
def fX12_could_j59 (F : Nat) (S : St) (x2 : Int32) (x3 : Int32) (s0 : Int32) : Option Int32 :=
  gd (ix x2 80) <|
  gd (ix (x2 + 3) 80) <|
  cal (fX12_heldBy F S (gA S 66 0 x2.toNatClampNeg) (gA S 66 0 (x2 + 3).toNatClampNeg) 1) fun b_5 =>
  if s0 = 0 then
    fX12_could_j102 F S x3 s0 b_5
  else
    if (b_5 &&& (((1 : Int32) <<< (x3 &&& 31)) ^^^ (-1))) = 0 then
      some 2
    else
      fX12_could_j102 F S x3 s0 b_5
def fX12_could (F : Nat) (S : St) (p1 : Int32) : Option Int32 :=
  cal (fX12_in S p1.toInt64 0 ((gI S 11 0 17) - 1).toInt64) fun b_1 =>
  if b_1 = 0 then
    some (-1)
  else
    bnd ((4 : Int32) * p1) fun x2_2 =>
    gd (ix (x2_2 + 1) 80) <|
    bnd (gA S 66 0 (x2_2 + 1).toNatClampNeg) fun x3_3 =>
    gd (ix x2_2 80) <|
    gd (ix (x2_2 + 3) 80) <|
    cal (fX12_heldBy F S (gA S 66 0 x2_2.toNatClampNeg) (gA S 66 0 (x2_2 + 3).toNatClampNeg) 0) fun b_4 =>
    if b_4 = x3_3 then
      fX12_could_j59 F S x2_2 x3_3 1
    else
      fX12_could_j59 F S x2_2 x3_3 0
-- X12_twice
def fX12_twice_b24 (F : Nat) (S : St) (x1 : Int32) (x2 : Int32) (k79 : Int32 → Option Int32) (k92 : Option Int32) (rec : Int32 → Option Int32) (x3 : Int32) : Option Int32 :=
  if (gI S 11 0 17) ≤ x3 then
    k92
  else
    gd (ix ((4 : Int32) * x2) 80) <|
    if (gA S 66 0 ((4 : Int32) * x2).toNatClampNeg) = x1 then
      gd (ix ((4 : Int32) * x3) 80) <|
      if (gA S 66 0 ((4 : Int32) * x3).toNatClampNeg) = x1 then
        gd (ix (((4 : Int32) * x2) + 1) 80) <|
        gd (ix (((4 : Int32) * x3) + 1) 80) <|
        if (gA S 66 0 (((4 : Int32) * x2) + 1).toNatClampNeg) = (gA S 66 0 (((4 : Int32) * x3) + 1).toNatClampNeg) then
          rec (x3 + 1)
        else
          k79 x3
      else
        rec (x3 + 1)
    else
      rec (x3 + 1)
def fX12_twice_L24 (F : Nat) (S : St) (x1 : Int32) (x2 : Int32) (k79 : Int32 → Option Int32) (k92 : Option Int32) : Nat → Int32 → Option Int32
  | 0, _ => none
  | n + 1, x3 => fX12_twice_b24 F S x1 x2 k79 k92 (fX12_twice_L24 F S x1 x2 k79 k92 n) x3
def fX12_twice_b12 (F : Nat) (S : St) (x1 : Int32) (k79 : Int32 → Int32 → Option Int32) (rec : Int32 → Option Int32) (x2 : Int32) : Option Int32 :=
  if (gI S 11 0 17) ≤ x2 then
    some (-4)
  else
    bnd (x2 + 1) fun x3_2 =>
    fX12_twice_L24 F S x1 x2
      (fun x3_3 =>
        k79 x2 x3_3
      )
      (
        rec (x2 + 1)
      )
      F x3_2
def fX12_twice_L12 (F : Nat) (S : St) (x1 : Int32) (k79 : Int32 → Int32 → Option Int32) : Nat → Int32 → Option Int32
  | 0, _ => none
  | n + 1, x2 => fX12_twice_b12 F S x1 k79 (fX12_twice_L12 F S x1 k79 n) x2
def fX12_twice (F : Nat) (S : St) (p1 : Int32) : Option Int32 :=
  cal (fX12_isBlock S p1) fun b_1 =>
  if b_1 = 0 then
    some (-1)
  else
    fX12_twice_L12 F S p1
      (fun x2_4 x3_5 =>
        some (((100 : Int32) * x2_4) + x3_5)
      )
      F 0
-- X12_take
def fX12_take (S : St) (p1 : Int32) (p2 : Int32) (p3 : Int32) : Option (Int32 × St) :=
  cal (fX12_isBlock S p1) fun b_1 =>
  if b_1 = 0 then
    some ((-1), S)
  else
    cal (fX12_isKin S p2) fun b_2 =>
    if b_2 = 0 then
      some ((-1), S)
    else
      cal (fX12_isYear S p3) fun b_3 =>
      if b_3 = 0 then
        some ((-1), S)
      else
        if (gI S 11 0 19) = 12 then
          some ((-3), S)
        else
          gd (ix ((3 : Int32) * (gI S 11 0 19)) 36) <|
          bnd (pA S 67 0 ((3 : Int32) * (gI S 11 0 19)).toNatClampNeg p1) fun S_4 =>
          gd (ix (((3 : Int32) * (gI S_4 11 0 19)) + 1) 36) <|
          bnd (pA S_4 67 0 (((3 : Int32) * (gI S_4 11 0 19)) + 1).toNatClampNeg p2) fun S_5 =>
          gd (ix (((3 : Int32) * (gI S_5 11 0 19)) + 2) 36) <|
          bnd (pA S_5 67 0 (((3 : Int32) * (gI S_5 11 0 19)) + 2).toNatClampNeg p3) fun S_6 =>
          bnd (pI S_6 11 0 19 ((gI S_6 11 0 19) + 1)) fun S_7 =>
          some ((gI S_7 11 0 19) - 1, S_7)
-- X12_wrongedBy
def fX12_wrongedBy_j49 (F : Nat) (S : St) (x1 : Int32) (s0 : Int32) (s1 : Int32) : Option Int32 :=
  bnd (s1 ||| s0) fun x5_5 =>
  gd (ix (((3 : Int32) * x1) + 1) 36) <|
  some (x5_5 &&& (((1 : Int32) <<< ((gA S 67 0 (((3 : Int32) * x1) + 1).toNatClampNeg) &&& 31)) ^^^ (-1)))
def fX12_wrongedBy (F : Nat) (S : St) (p1 : Int32) : Option Int32 :=
  gd (ix ((3 : Int32) * p1) 36) <|
  bnd (gA S 67 0 ((3 : Int32) * p1).toNatClampNeg) fun x2_1 =>
  gd (ix (((3 : Int32) * p1) + 2) 36) <|
  bnd (gA S 67 0 (((3 : Int32) * p1) + 2).toNatClampNeg) fun x3_2 =>
  cal (fX12_heldBy F S x2_1 x3_2 0) fun b_3 =>
  cal (fX12_heldBy F S x2_1 x3_2 1) fun b_4 =>
  if 0 ≤ b_3 then
    fX12_wrongedBy_j49 F S p1 ((1 : Int32) <<< (b_3 &&& 31)) b_4
  else
    fX12_wrongedBy_j49 F S p1 0 b_4
-- X12_wronged
def fX12_wronged (F : Nat) (S : St) (p1 : Int32) : Option Int32 :=
  cal (fX12_in S p1.toInt64 0 ((gI S 11 0 19) - 1).toInt64) fun b_1 =>
  if b_1 = 0 then
    some (-1)
  else
    cal (fX12_wrongedBy F S p1) fun b_2 =>
    some b_2
-- X12_isHeir
def fX12_isHeir (S : St) (p1 : Int32) (p2 : Int32) (p3 : Int32) : Option Int32 :=
  gd (ix p1 30) <|
  cal (fX12_has S (gA S 62 0 p1.toNatClampNeg) p2) fun b_1 =>
  if b_1 = 0 then
    some 0
  else
    gd (ix p1 30) <|
    if p3 < (gA S 59 0 p1.toNatClampNeg) then
      some 0
    else
      gd (ix p1 30) <|
      if (gA S 61 0 p1.toNatClampNeg) ≤ p3 then
        some 0
      else
        some 1
-- X12_beginShares
def fX12_beginShares_j35 (F : Nat) (S : St) (x1 : Int32) (x2 : Int32) (x3 : Int32) (s0 : Int32) (s1 : Int32) (rec : Int32 → St → Option St) : Option St :=
  bnd (pI S 11 0 34 (s1 + s0)) fun S_3 =>
  rec (x3 + 1) S_3
def fX12_beginShares_b7 (F : Nat) (x1 : Int32) (x2 : Int32) (k45 : St → Option St) (rec : Int32 → St → Option St) (x3 : Int32) (S : St) : Option St :=
  if (gI S 11 0 6) ≤ x3 then
    k45 S
  else
    cal (fX12_isHeir S x3 x1 x2) fun b_2 =>
    if b_2 = 0 then
      fX12_beginShares_j35 F S x1 x2 x3 0 (gI S 11 0 34) rec
    else
      fX12_beginShares_j35 F S x1 x2 x3 1 (gI S 11 0 34) rec
def fX12_beginShares_L7 (F : Nat) (x1 : Int32) (x2 : Int32) (k45 : St → Option St) : Nat → Int32 → St → Option St
  | 0, _, _ => none
  | n + 1, x3, S => fX12_beginShares_b7 F x1 x2 k45 (fX12_beginShares_L7 F x1 x2 k45 n) x3 S
def fX12_beginShares_j90 (F : Nat) (S : St) (x1 : Int32) (x2 : Int32) (x3 : Int32) (s0 : Int64) (s1 : Int32) (rec : Int32 → St → Option St) : Option St :=
  gd (ix s1 30) <|
  bnd (pB S 76 0 s1.toNatClampNeg s0) fun S_7 =>
  gd (ix x3 30) <|
  bnd (pJ S_7 11 0 33 ((gJ S_7 11 0 33) - (gB S_7 76 0 x3.toNatClampNeg))) fun S_8 =>
  rec (x3 + 1) S_8
def fX12_beginShares_b54 (F : Nat) (x1 : Int32) (x2 : Int32) (rec : Int32 → St → Option St) (x3 : Int32) (S : St) : Option St :=
  if (gI S 11 0 6) ≤ x3 then
    some S
  else
    cal (fX12_isHeir S x3 x1 x2) fun b_6 =>
    if b_6 = 0 then
      fX12_beginShares_j90 F S x1 x2 x3 0 x3 rec
    else
      gd (!(decide ((gI S 11 0 34).toInt64 = (0 : Int64)))) <|
      fX12_beginShares_j90 F S x1 x2 x3 (1000000000000 / (gI S 11 0 34).toInt64) x3 rec
def fX12_beginShares_L54 (F : Nat) (x1 : Int32) (x2 : Int32) : Nat → Int32 → St → Option St
  | 0, _, _ => none
  | n + 1, x3, S => fX12_beginShares_b54 F x1 x2 (fX12_beginShares_L54 F x1 x2 n) x3 S
def fX12_beginShares (F : Nat) (S : St) (p1 : Int32) (p2 : Int32) : Option St :=
  bnd (pI S 11 0 34 0) fun S_1 =>
  fX12_beginShares_L7 F p1 p2
    (fun S_4 =>
      bnd (pJ S_4 11 0 33 1000000000000) fun S_5 =>
      fX12_beginShares_L54 F p1 p2
        F 0 S_5
    )
    F 0 S_1
-- X12_isChild
def fX12_isChild_j26 (S : St) (x1 : Int32) (x3 : Int32) : Option Int32 :=
  gd (ix x1 30) <|
  if x3 < (gA S 59 0 x1.toNatClampNeg) then
    some 0
  else
    some 1
def fX12_isChild (S : St) (p1 : Int32) (p2 : Int32) (p3 : Int32) : Option Int32 :=
  gd (ix ((2 : Int32) * p1) 60) <|
  if (gA S 60 0 ((2 : Int32) * p1).toNatClampNeg) = p2 then
    fX12_isChild_j26 S p1 p3
  else
    gd (ix (((2 : Int32) * p1) + 1) 60) <|
    if (gA S 60 0 (((2 : Int32) * p1) + 1).toNatClampNeg) = p2 then
      fX12_isChild_j26 S p1 p3
    else
      some 0
-- X12_handOn
def fX12_handOn_b75 (F : Nat) (S : St) (x2 : Int32) (x3 : Int32) (y4 : Int64) (k111 : Int32 → Option St) (rec : Int32 → Int32 → Option St) (x6 : Int32) (x7 : Int32) : Option St :=
  if (gI S 11 0 6) ≤ x7 then
    k111 x6
  else
    cal (fX12_isChild S x7 x3 x2) fun b_8 =>
    if b_8 = 0 then
      bnd (x6 + 0) fun x6_9 =>
      rec x6_9 (x7 + 1)
    else
      bnd (x6 + 1) fun x6_10 =>
      rec x6_10 (x7 + 1)
def fX12_handOn_L75 (F : Nat) (S : St) (x2 : Int32) (x3 : Int32) (y4 : Int64) (k111 : Int32 → Option St) : Nat → Int32 → Int32 → Option St
  | 0, _, _ => none
  | n + 1, x6, x7 => fX12_handOn_b75 F S x2 x3 y4 k111 (fX12_handOn_L75 F S x2 x3 y4 k111 n) x6 x7
def fX12_handOn_b149 (F : Nat) (x2 : Int32) (x3 : Int32) (y7 : Int64) (k240 : St → Option St) (rec : Int32 → St → Option St) (x9 : Int32) (S : St) : Option St :=
  if (gI S 11 0 6) ≤ x9 then
    k240 S
  else
    if (lg_cmp y7 0) ≤ 0 then
      k240 S
    else
      cal (fX12_isChild S x9 x3 x2) fun b_13 =>
      if b_13 = 0 then
        rec (x9 + 1) S
      else
        gd (ix x9 30) <|
        if x2 < (gA S 61 0 x9.toNatClampNeg) then
          gd (ix x9 30) <|
          gd (ix x9 30) <|
          bnd (pB S 76 0 x9.toNatClampNeg ((gB S 76 0 x9.toNatClampNeg) + y7)) fun S_14 =>
          rec (x9 + 1) S_14
        else
          gd (ix (gI S 11 0 35) 900) <|
          bnd (pA S 77 0 (gI S 11 0 35).toNatClampNeg x9) fun S_15 =>
          gd (ix (gI S_15 11 0 35) 900) <|
          bnd (pB S_15 78 0 (gI S_15 11 0 35).toNatClampNeg y7) fun S_16 =>
          bnd (pI S_16 11 0 35 ((gI S_16 11 0 35) + 1)) fun S_17 =>
          rec (x9 + 1) S_17
def fX12_handOn_L149 (F : Nat) (x2 : Int32) (x3 : Int32) (y7 : Int64) (k240 : St → Option St) : Nat → Int32 → St → Option St
  | 0, _, _ => none
  | n + 1, x9, S => fX12_handOn_b149 F x2 x3 y7 k240 (fX12_handOn_L149 F x2 x3 y7 k240 n) x9 S
def fX12_handOn_j126 (F : Nat) (S : St) (x2 : Int32) (x3 : Int32) (y4 : Int64) (x6 : Int32) (s0 : Int64) (rec : St → Option St) : Option St :=
  bnd (pJ S 11 0 33 ((gJ S 11 0 33) + (y4 - (s0 * x6.toInt64)))) fun S_12 =>
  fX12_handOn_L149 F x2 x3 s0
    (fun S_18 =>
      rec S_18
    )
    F 0 S_12
def fX12_handOn_b31 (F : Nat) (x2 : Int32) (rec : St → Option St) (S : St) : Option St :=
  if (gI S 11 0 35) ≤ 0 then
    some S
  else
    bnd (pI S 11 0 35 ((gI S 11 0 35) - 1)) fun S_5 =>
    gd (ix (gI S_5 11 0 35) 900) <|
    bnd (gA S_5 77 0 (gI S_5 11 0 35).toNatClampNeg) fun x3_6 =>
    gd (ix (gI S_5 11 0 35) 900) <|
    bnd (gB S_5 78 0 (gI S_5 11 0 35).toNatClampNeg) fun y4_7 =>
    fX12_handOn_L75 F S_5 x2 x3_6 y4_7
      (fun x6_11 =>
        if x6_11 = 0 then
          fX12_handOn_j126 F S_5 x2 x3_6 y4_7 x6_11 0 rec
        else
          gd (!(decide (x6_11.toInt64 = (0 : Int64)))) <|
          fX12_handOn_j126 F S_5 x2 x3_6 y4_7 x6_11 (y4_7 / x6_11.toInt64) rec
      )
      F 0 0
def fX12_handOn_L31 (F : Nat) (x2 : Int32) : Nat → St → Option St
  | 0, _ => none
  | n + 1, S => fX12_handOn_b31 F x2 (fX12_handOn_L31 F x2 n) S
def fX12_handOn (F : Nat) (S : St) (p1 : Int32) (p2 : Int32) : Option St :=
  gd (ix 0 900) <|
  bnd (pA S 77 0 (0 : Int32).toNatClampNeg p1) fun S_1 =>
  gd (ix p1 30) <|
  gd (ix 0 900) <|
  bnd (pB S_1 78 0 (0 : Int32).toNatClampNeg (gB S_1 76 0 p1.toNatClampNeg)) fun S_2 =>
  bnd (pI S_2 11 0 35 1) fun S_3 =>
  gd (ix p1 30) <|
  bnd (pB S_3 76 0 p1.toNatClampNeg 0) fun S_4 =>
  fX12_handOn_L31 F p2
    F S_4
-- X12_goYear
def fX12_goYear_b2 (F : Nat) (x1 : Int32) (rec : Int32 → St → Option St) (x2 : Int32) (S : St) : Option St :=
  if (gI S 11 0 6) ≤ x2 then
    some S
  else
    gd (ix x2 30) <|
    if (gA S 61 0 x2.toNatClampNeg) = x1 then
      gd (ix x2 30) <|
      if (lg_cmp (gB S 76 0 x2.toNatClampNeg) 0) ≤ 0 then
        rec (x2 + 1) S
      else
        cal (fX12_handOn F S x2 x1) fun b_1 =>
        rec (x2 + 1) b_1
    else
      rec (x2 + 1) S
def fX12_goYear_L2 (F : Nat) (x1 : Int32) : Nat → Int32 → St → Option St
  | 0, _, _ => none
  | n + 1, x2, S => fX12_goYear_b2 F x1 (fX12_goYear_L2 F x1 n) x2 S
def fX12_goYear (F : Nat) (S : St) (p1 : Int32) : Option St :=
  fX12_goYear_L2 F p1
    F 0 S
-- X12_shares
def fX12_shares (F : Nat) (S : St) (p1 : Int32) (p2 : Int32) (p3 : Int32) : Option (Int32 × St) :=
  cal (fX12_isBlock S p1) fun b_1 =>
  if b_1 = 0 then
    some ((-1), S)
  else
    cal (fX12_isKin S p2) fun b_2 =>
    if b_2 = 0 then
      some ((-1), S)
    else
      cal (fX12_isYear S p3) fun b_3 =>
      if b_3 = 0 then
        some ((-1), S)
      else
        cal (fX12_beginShares F S p2 p3) fun b_4 =>
        if (gI b_4 11 0 34) = 0 then
          some ((-2), b_4)
        else
          gd (ix p1 12) <|
          bnd (pA b_4 68 0 p1.toNatClampNeg p2) fun S_5 =>
          gd (ix p1 12) <|
          bnd (pA S_5 69 0 p1.toNatClampNeg p3) fun S_6 =>
          some (gI S_6 11 0 34, S_6)
-- X12_share
def fX12_share_b79 (F : Nat) (x2 : Int32) (x3 : Int32) (k97 : St → Option (Int64 × St)) (rec : Int32 → St → Option (Int64 × St)) (x4 : Int32) (S : St) : Option (Int64 × St) :=
  if x3 < x4 then
    k97 S
  else
    cal (fX12_goYear F S x4) fun b_5 =>
    rec (x4 + 1) b_5
def fX12_share_L79 (F : Nat) (x2 : Int32) (x3 : Int32) (k97 : St → Option (Int64 × St)) : Nat → Int32 → St → Option (Int64 × St)
  | 0, _, _ => none
  | n + 1, x4, S => fX12_share_b79 F x2 x3 k97 (fX12_share_L79 F x2 x3 k97 n) x4 S
def fX12_share_j21 (F : Nat) (S : St) (x1 : Int32) (x2 : Int32) (x3 : Int32) : Option (Int64 × St) :=
  cal (fX12_isYear S x3) fun b_2 =>
  if b_2 = 0 then
    some ((-1), S)
  else
    gd (ix x1 12) <|
    if (gA S 68 0 x1.toNatClampNeg) < 0 then
      some ((-2), S)
    else
      gd (ix x1 12) <|
      if (gA S 69 0 x1.toNatClampNeg) ≤ x3 then
        gd (ix x1 12) <|
        gd (ix x1 12) <|
        cal (fX12_beginShares F S (gA S 68 0 x1.toNatClampNeg) (gA S 69 0 x1.toNatClampNeg)) fun b_3 =>
        gd (ix x1 12) <|
        bnd (gA b_3 69 0 x1.toNatClampNeg) fun x4_4 =>
        fX12_share_L79 F x2 x3
          (fun S_6 =>
            if 0 ≤ x2 then
              gd (ix x2 30) <|
              some (gB S_6 76 0 x2.toNatClampNeg, S_6)
            else
              some (gJ S_6 11 0 33, S_6)
          )
          F x4_4 b_3
      else
        some ((-2), S)
def fX12_share (F : Nat) (S : St) (p1 : Int32) (p2 : Int32) (p3 : Int32) : Option (Int64 × St) :=
  cal (fX12_isBlock S p1) fun b_1 =>
  if b_1 = 0 then
    some ((-1), S)
  else
    if p2 = (-1) then
      fX12_share_j21 F S p1 p2 p3
    else
      cal (fX12_isPerson S p2) fun b_7 =>
      if b_7 = 0 then
        some ((-1), S)
      else
        fX12_share_j21 F S p1 p2 p3
-- X12_small
def fX12_small_b72 (F : Nat) (S : St) (x2 : Int32) (x3 : Int32) (k129 : Option (Int32 × St)) (rec : Int32 → Option (Int32 × St)) (x4 : Int32) : Option (Int32 × St) :=
  if (gI S 11 0 6) ≤ x4 then
    k129
  else
    gd (ix x4 30) <|
    if (gA S 61 0 x4.toNatClampNeg) ≤ x3 then
      rec (x4 + 1)
    else
      gd (ix x4 30) <|
      if (lg_cmp (gB S 76 0 x4.toNatClampNeg) 0) ≤ 0 then
        rec (x4 + 1)
      else
        gd (ix x4 30) <|
        if 0 ≤ (lg_cmp ((gB S 76 0 x4.toNatClampNeg) * x2.toInt64) 1000000000000) then
          rec (x4 + 1)
        else
          some (x3, S)
def fX12_small_L72 (F : Nat) (S : St) (x2 : Int32) (x3 : Int32) (k129 : Option (Int32 × St)) : Nat → Int32 → Option (Int32 × St)
  | 0, _ => none
  | n + 1, x4 => fX12_small_b72 F S x2 x3 k129 (fX12_small_L72 F S x2 x3 k129 n) x4
def fX12_small_b57 (F : Nat) (x2 : Int32) (rec : Int32 → St → Option (Int32 × St)) (x3 : Int32) (S : St) : Option (Int32 × St) :=
  if 200 < x3 then
    some ((-4), S)
  else
    cal (fX12_goYear F S x3) fun b_5 =>
    fX12_small_L72 F b_5 x2 x3
      (
        rec (x3 + 1) b_5
      )
      F 0
def fX12_small_L57 (F : Nat) (x2 : Int32) : Nat → Int32 → St → Option (Int32 × St)
  | 0, _, _ => none
  | n + 1, x3, S => fX12_small_b57 F x2 (fX12_small_L57 F x2 n) x3 S
def fX12_small (F : Nat) (S : St) (p1 : Int32) (p2 : Int32) : Option (Int32 × St) :=
  cal (fX12_isBlock S p1) fun b_1 =>
  if b_1 = 0 then
    some ((-1), S)
  else
    cal (fX12_in S p2.toInt64 1 1000000) fun b_2 =>
    if b_2 = 0 then
      some ((-1), S)
    else
      gd (ix p1 12) <|
      if 0 ≤ (gA S 68 0 p1.toNatClampNeg) then
        gd (ix p1 12) <|
        gd (ix p1 12) <|
        cal (fX12_beginShares F S (gA S 68 0 p1.toNatClampNeg) (gA S 69 0 p1.toNatClampNeg)) fun b_3 =>
        gd (ix p1 12) <|
        bnd (gA b_3 69 0 p1.toNatClampNeg) fun x3_4 =>
        fX12_small_L57 F p2
          F x3_4 b_3
      else
        some ((-2), S)
-- X12_claim
def fX12_claim (S : St) (p1 : Int32) (p2 : Int32) (p3 : Int32) (p4 : Int32) (p5 : Int32) (p6 : Int32) : Option (Int32 × St) :=
  cal (fX12_isKin S p1) fun b_1 =>
  if b_1 = 0 then
    some ((-1), S)
  else
    cal (fX12_in S p2.toInt64 1 100) fun b_2 =>
    if b_2 = 0 then
      some ((-1), S)
    else
      cal (fX12_isPerson S p3) fun b_3 =>
      if b_3 = 0 then
        some ((-1), S)
      else
        cal (fX12_in S p4.toInt64 1 5) fun b_4 =>
        if b_4 = 0 then
          some ((-1), S)
        else
          cal (fX12_in S p5.toInt64 0 255) fun b_5 =>
          if b_5 = 0 then
            some ((-1), S)
          else
            cal (fX12_in S p6.toInt64 1 1000) fun b_6 =>
            if b_6 = 0 then
              some ((-1), S)
            else
              if (gI S 11 0 23) = 9 then
                some ((-3), S)
              else
                bnd ((6 : Int32) * (gI S 11 0 23)) fun x7_7 =>
                gd (ix x7_7 54) <|
                bnd (pA S 70 0 x7_7.toNatClampNeg p1) fun S_8 =>
                gd (ix (x7_7 + 1) 54) <|
                bnd (pA S_8 70 0 (x7_7 + 1).toNatClampNeg p2) fun S_9 =>
                gd (ix (x7_7 + 2) 54) <|
                bnd (pA S_9 70 0 (x7_7 + 2).toNatClampNeg p3) fun S_10 =>
                gd (ix (x7_7 + 3) 54) <|
                bnd (pA S_10 70 0 (x7_7 + 3).toNatClampNeg p4) fun S_11 =>
                gd (ix (x7_7 + 4) 54) <|
                bnd (pA S_11 70 0 (x7_7 + 4).toNatClampNeg p5) fun S_12 =>
                gd (ix (x7_7 + 5) 54) <|
                bnd (pA S_12 70 0 (x7_7 + 5).toNatClampNeg p6) fun S_13 =>
                bnd (pI S_13 11 0 23 ((gI S_13 11 0 23) + 1)) fun S_14 =>
                some ((gI S_14 11 0 23) - 1, S_14)
-- X12_foundedBy
def fX12_foundedBy_b4 (F : Nat) (S : St) (x1 : Int32) (rec : Int32 → Int32 → Option Int32) (x2 : Int32) (x3 : Int32) : Option Int32 :=
  if (gI S 11 0 23) ≤ x3 then
    some x2
  else
    gd (ix (((6 : Int32) * x3) + 4) 54) <|
    if ((gA S 70 0 (((6 : Int32) * x3) + 4).toNatClampNeg) &&& (x1 ^^^ (-1))) = 0 then
      bnd (x2 ||| ((1 : Int32) <<< (x3 &&& 31))) fun x2_2 =>
      rec x2_2 (x3 + 1)
    else
      bnd (x2 ||| 0) fun x2_1 =>
      rec x2_1 (x3 + 1)
def fX12_foundedBy_L4 (F : Nat) (S : St) (x1 : Int32) : Nat → Int32 → Int32 → Option Int32
  | 0, _, _ => none
  | n + 1, x2, x3 => fX12_foundedBy_b4 F S x1 (fX12_foundedBy_L4 F S x1 n) x2 x3
def fX12_foundedBy (F : Nat) (S : St) (p1 : Int32) : Option Int32 :=
  fX12_foundedBy_L4 F S p1
    F 0 0
-- X12_founded
def fX12_founded (F : Nat) (S : St) (p1 : Int32) : Option Int32 :=
  cal (fX12_in S p1.toInt64 0 255) fun b_1 =>
  if b_1 = 0 then
    some (-1)
  else
    cal (fX12_foundedBy F S p1) fun b_2 =>
    some b_2
-- X12_falls
def fX12_falls_b35 (F : Nat) (S : St) (x2 : Int32) (rec : Int32 → Int32 → Option Int32) (x3 : Int32) (x4 : Int32) : Option Int32 :=
  if (gI S 11 0 23) ≤ x4 then
    some x3
  else
    gd (ix (((6 : Int32) * x4) + 4) 54) <|
    cal (fX12_has S (gA S 70 0 (((6 : Int32) * x4) + 4).toNatClampNeg) x2) fun b_4 =>
    if b_4 = 0 then
      bnd (x3 &&& (((1 : Int32) <<< (x4 &&& 31)) ^^^ (-1))) fun x3_5 =>
      rec x3_5 (x4 + 1)
    else
      bnd (x3 &&& (-1)) fun x3_6 =>
      rec x3_6 (x4 + 1)
def fX12_falls_L35 (F : Nat) (S : St) (x2 : Int32) : Nat → Int32 → Int32 → Option Int32
  | 0, _, _ => none
  | n + 1, x3, x4 => fX12_falls_b35 F S x2 (fX12_falls_L35 F S x2 n) x3 x4
def fX12_falls (F : Nat) (S : St) (p1 : Int32) (p2 : Int32) : Option Int32 :=
  cal (fX12_in S p1.toInt64 0 255) fun b_1 =>
  if b_1 = 0 then
    some (-1)
  else
    cal (fX12_in S p2.toInt64 0 7) fun b_2 =>
    if b_2 = 0 then
      some (-1)
    else
      cal (fX12_foundedBy F S p1) fun b_3 =>
      fX12_falls_L35 F S p2
        F b_3 0
-- X12_sumOf
def fX12_sumOf_b5 (F : Nat) (S : St) (x1 : Int32) (x2 : Int32) (rec : Int32 → Int32 → Option Int32) (x3 : Int32) (x4 : Int32) : Option Int32 :=
  if (gI S 11 0 23) ≤ x4 then
    some x3
  else
    cal (fX12_has S x1 x4) fun b_1 =>
    if b_1 = 0 then
      bnd (x3 + 0) fun x3_2 =>
      rec x3_2 (x4 + 1)
    else
      gd (ix (((6 : Int32) * x4) + x2) 54) <|
      bnd (x3 + (gA S 70 0 (((6 : Int32) * x4) + x2).toNatClampNeg)) fun x3_3 =>
      rec x3_3 (x4 + 1)
def fX12_sumOf_L5 (F : Nat) (S : St) (x1 : Int32) (x2 : Int32) : Nat → Int32 → Int32 → Option Int32
  | 0, _, _ => none
  | n + 1, x3, x4 => fX12_sumOf_b5 F S x1 x2 (fX12_sumOf_L5 F S x1 x2 n) x3 x4
def fX12_sumOf (F : Nat) (S : St) (p1 : Int32) (p2 : Int32) : Option Int32 :=
  fX12_sumOf_L5 F S p1 p2
    F 0 0
-- X12_heard
def fX12_heard (F : Nat) (S : St) (p1 : Int32) (p2 : Int32) (p3 : Int32) : Option Int32 :=
  cal (fX12_sumOf F S p1 3) fun b_1 =>
  gd (ix (((6 : Int32) * p2) + 3) 54) <|
  bnd (((p3 + b_1) + (gA S 70 0 (((6 : Int32) * p2) + 3).toNatClampNeg)) - 1) fun x4_2 =>
  gd (ix (((6 : Int32) * p2) + 2) 54) <|
  gd (ix (gA S 70 0 (((6 : Int32) * p2) + 2).toNatClampNeg) 30) <|
  if (gA S 61 0 (gA S 70 0 (((6 : Int32) * p2) + 2).toNatClampNeg).toNatClampNeg) ≤ x4_2 then
    some 0
  else
    gd (ix (((6 : Int32) * p2) + 1) 54) <|
    some (gA S 70 0 (((6 : Int32) * p2) + 1).toNatClampNeg)
-- X12_hear
def fX12_hear_j124 (F : Nat) (S : St) (x1 : Int32) (x2 : Int32) (x4 : Int32) (x5 : Int32) (s0 : Int32) (s1 : Int32) (rec : Int32 → St → Option (Int32 × St)) : Option (Int32 × St) :=
  gd (ix s1 512) <|
  bnd (pA S 79 0 s1.toNatClampNeg s0) fun S_9 =>
  rec (x5 + 1) S_9
def fX12_hear_b51 (F : Nat) (x1 : Int32) (x2 : Int32) (x4 : Int32) (k131 : St → Option (Int32 × St)) (rec : Int32 → St → Option (Int32 × St)) (x5 : Int32) (S : St) : Option (Int32 × St) :=
  if (gI S 11 0 23) ≤ x5 then
    k131 S
  else
    cal (fX12_has S x4 x5) fun b_6 =>
    if b_6 = 0 then
      cal (fX12_heard F S x4 x5 x1) fun b_7 =>
      gd (ix (x4 ||| ((1 : Int32) <<< (x5 &&& 31))) 512) <|
      bnd (b_7 + (gA S 79 0 (x4 ||| ((1 : Int32) <<< (x5 &&& 31))).toNatClampNeg)) fun x6_8 =>
      gd (ix x4 512) <|
      if x6_8 ≤ (gA S 79 0 x4.toNatClampNeg) then
        gd (ix x4 512) <|
        fX12_hear_j124 F S x1 x2 x4 x5 (gA S 79 0 x4.toNatClampNeg) x4 rec
      else
        fX12_hear_j124 F S x1 x2 x4 x5 x6_8 x4 rec
    else
      rec (x5 + 1) S
def fX12_hear_L51 (F : Nat) (x1 : Int32) (x2 : Int32) (x4 : Int32) (k131 : St → Option (Int32 × St)) : Nat → Int32 → St → Option (Int32 × St)
  | 0, _, _ => none
  | n + 1, x5, S => fX12_hear_b51 F x1 x2 x4 k131 (fX12_hear_L51 F x1 x2 x4 k131 n) x5 S
def fX12_hear_b35 (F : Nat) (x1 : Int32) (x2 : Int32) (k137 : St → Option (Int32 × St)) (rec : Int32 → St → Option (Int32 × St)) (x4 : Int32) (S : St) : Option (Int32 × St) :=
  if x4 < 0 then
    k137 S
  else
    gd (ix x4 512) <|
    bnd (pA S 79 0 x4.toNatClampNeg (-1)) fun S_5 =>
    fX12_hear_L51 F x1 x2 x4
      (fun S_10 =>
        rec (x4 + (-1)) S_10
      )
      F 0 S_5
def fX12_hear_L35 (F : Nat) (x1 : Int32) (x2 : Int32) (k137 : St → Option (Int32 × St)) : Nat → Int32 → St → Option (Int32 × St)
  | 0, _, _ => none
  | n + 1, x4, S => fX12_hear_b35 F x1 x2 k137 (fX12_hear_L35 F x1 x2 k137 n) x4 S
def fX12_hear_b182 (F : Nat) (S : St) (x1 : Int32) (x2 : Int32) (x4 : Int32) (x6 : Int32) (k255 : Int32 → Option (Int32 × St)) (rec : Int32 → Int32 → Option (Int32 × St)) (x5 : Int32) (x7 : Int32) : Option (Int32 × St) :=
  if (gI S 11 0 23) ≤ x7 then
    k255 x5
  else
    if x5 = (-4) then
      cal (fX12_has S x4 x7) fun b_12 =>
      if b_12 = 0 then
        cal (fX12_heard F S x4 x7 x1) fun b_13 =>
        gd (ix (x4 ||| ((1 : Int32) <<< (x7 &&& 31))) 512) <|
        gd (ix x4 512) <|
        if (b_13 + (gA S 79 0 (x4 ||| ((1 : Int32) <<< (x7 &&& 31))).toNatClampNeg)) = (gA S 79 0 x4.toNatClampNeg) then
          rec x7 (x7 + 1)
        else
          rec (-4) (x7 + 1)
      else
        rec (-4) (x7 + 1)
    else
      k255 x5
def fX12_hear_L182 (F : Nat) (S : St) (x1 : Int32) (x2 : Int32) (x4 : Int32) (x6 : Int32) (k255 : Int32 → Option (Int32 × St)) : Nat → Int32 → Int32 → Option (Int32 × St)
  | 0, _, _ => none
  | n + 1, x5, x7 => fX12_hear_b182 F S x1 x2 x4 x6 k255 (fX12_hear_L182 F S x1 x2 x4 x6 k255 n) x5 x7
def fX12_hear_j255 (F : Nat) (S : St) (x1 : Int32) (x2 : Int32) (x4 : Int32) (x5 : Int32) (x6 : Int32) (rec : Int32 → Int32 → Int32 → Option (Int32 × St)) : Option (Int32 × St) :=
  bnd (x4 ||| ((1 : Int32) <<< (x5 &&& 31))) fun x4_15 =>
  rec x4_15 x5 (x6 + 1)
def fX12_hear_b169 (F : Nat) (S : St) (x1 : Int32) (x2 : Int32) (rec : Int32 → Int32 → Int32 → Option (Int32 × St)) (x4 : Int32) (x5 : Int32) (x6 : Int32) : Option (Int32 × St) :=
  if x2 < x6 then
    some (x5, S)
  else
    fX12_hear_L182 F S x1 x2 x4 x6
      (fun x5_14 =>
        fX12_hear_j255 F S x1 x2 x4 x5_14 x6 rec
      )
      F (-4) 0
def fX12_hear_L169 (F : Nat) (S : St) (x1 : Int32) (x2 : Int32) : Nat → Int32 → Int32 → Int32 → Option (Int32 × St)
  | 0, _, _, _ => none
  | n + 1, x4, x5, x6 => fX12_hear_b169 F S x1 x2 (fX12_hear_L169 F S x1 x2 n) x4 x5 x6
def fX12_hear (F : Nat) (S : St) (p1 : Int32) (p2 : Int32) : Option (Int32 × St) :=
  cal (fX12_isYear S p1) fun b_1 =>
  if b_1 = 0 then
    some ((-1), S)
  else
    if (-1) ≤ p2 then
      bnd (((1 : Int32) <<< ((gI S 11 0 23) &&& 31)) - 1) fun x3_2 =>
      gd (ix x3_2 512) <|
      bnd (pA S 79 0 x3_2.toNatClampNeg 0) fun S_3 =>
      bnd (x3_2 - 1) fun x4_4 =>
      fX12_hear_L35 F p1 p2
        (fun S_11 =>
          if 0 ≤ p2 then
            if p2 < (gI S_11 11 0 23) then
              fX12_hear_L169 F S_11 p1 p2
                F 0 (-4) 0
            else
              some ((-4), S_11)
          else
            gd (ix 0 512) <|
            some (gA S_11 79 0 (0 : Int32).toNatClampNeg, S_11)
        )
        F x4_4 S_3
    else
      some ((-1), S)
-- X12_left
def fX12_left_b57 (F : Nat) (S : St) (x2 : Int32) (x3 : Int32) (x4 : Int32) (x5 : Int32) (x6 : Int32) (k101 : Int32 → Option Int32) (rec : Int32 → Int32 → Option Int32) (x7 : Int32) (x8 : Int32) : Option Int32 :=
  if (gI S 11 0 19) ≤ x8 then
    k101 x7
  else
    gd (ix ((3 : Int32) * x8) 36) <|
    if (gA S 67 0 ((3 : Int32) * x8).toNatClampNeg) = x6 then
      cal (fX12_wrongedBy F S x8) fun b_5 =>
      bnd (x7 ||| b_5) fun x7_6 =>
      rec x7_6 (x8 + 1)
    else
      bnd (x7 ||| 0) fun x7_4 =>
      rec x7_4 (x8 + 1)
def fX12_left_L57 (F : Nat) (S : St) (x2 : Int32) (x3 : Int32) (x4 : Int32) (x5 : Int32) (x6 : Int32) (k101 : Int32 → Option Int32) : Nat → Int32 → Int32 → Option Int32
  | 0, _, _ => none
  | n + 1, x7, x8 => fX12_left_b57 F S x2 x3 x4 x5 x6 k101 (fX12_left_L57 F S x2 x3 x4 x5 x6 k101 n) x7 x8
def fX12_left_j140 (F : Nat) (S : St) (x2 : Int32) (x3 : Int32) (x4 : Int32) (x5 : Int32) (x6 : Int32) (s0 : Int32) (rec : Int32 → Int32 → Option Int32) : Option Int32 :=
  if s0 = 0 then
    bnd (x5 + 0) fun x5_9 =>
    rec x5_9 (x6 + 1)
  else
    gd (ix x6 12) <|
    bnd (x5 + (gA S 64 0 x6.toNatClampNeg)) fun x5_10 =>
    rec x5_10 (x6 + 1)
def fX12_left_j139 (F : Nat) (S : St) (x2 : Int32) (x3 : Int32) (x4 : Int32) (x5 : Int32) (x6 : Int32) (rec : Int32 → Int32 → Option Int32) : Option Int32 :=
  fX12_left_j140 F S x2 x3 x4 x5 x6 0 rec
def fX12_left_j135 (F : Nat) (S : St) (x2 : Int32) (x3 : Int32) (x4 : Int32) (x5 : Int32) (x6 : Int32) (rec : Int32 → Int32 → Option Int32) : Option Int32 :=
  fX12_left_j140 F S x2 x3 x4 x5 x6 1 rec
def fX12_left_b42 (F : Nat) (S : St) (x2 : Int32) (x3 : Int32) (x4 : Int32) (rec : Int32 → Int32 → Option Int32) (x5 : Int32) (x6 : Int32) : Option Int32 :=
  if (gI S 11 0 13) ≤ x6 then
    some x5
  else
    fX12_left_L57 F S x2 x3 x4 x5 x6
      (fun x7_7 =>
        cal (fX12_has S x7_7 x4) fun b_8 =>
        if b_8 = 0 then
          fX12_left_j139 F S x2 x3 x4 x5 x6 rec
        else
          cal (fX12_heldBy F S x6 x2 0) fun b_11 =>
          if 0 ≤ b_11 then
            fX12_left_j139 F S x2 x3 x4 x5 x6 rec
          else
            if x3 = 0 then
              fX12_left_j135 F S x2 x3 x4 x5 x6 rec
            else
              if x7_7 = ((1 : Int32) <<< (x4 &&& 31)) then
                fX12_left_j135 F S x2 x3 x4 x5 x6 rec
              else
                fX12_left_j139 F S x2 x3 x4 x5 x6 rec
      )
      F 0 0
def fX12_left_L42 (F : Nat) (S : St) (x2 : Int32) (x3 : Int32) (x4 : Int32) : Nat → Int32 → Int32 → Option Int32
  | 0, _, _ => none
  | n + 1, x5, x6 => fX12_left_b42 F S x2 x3 x4 (fX12_left_L42 F S x2 x3 x4 n) x5 x6
def fX12_left (F : Nat) (S : St) (p1 : Int32) (p2 : Int32) (p3 : Int32) : Option Int32 :=
  cal (fX12_in S p1.toInt64 0 ((gI S 11 0 23) - 1).toInt64) fun b_1 =>
  if b_1 = 0 then
    some (-1)
  else
    cal (fX12_isYear S p2) fun b_2 =>
    if b_2 = 0 then
      some (-1)
    else
      gd (ix ((6 : Int32) * p1) 54) <|
      bnd (gA S 70 0 ((6 : Int32) * p1).toNatClampNeg) fun x4_3 =>
      fX12_left_L42 F S p2 p3 x4_3
        F 0 0
-- X12_cousinsOf
def fX12_cousinsOf_j47 (F : Nat) (S : St) (x1 : Int32) (x2 : Int32) (x4 : Int32) (s0 : Int32) (rec : Int32 → Int32 → Option Int32) : Option Int32 :=
  bnd (s0 + 0) fun x3_2 =>
  rec x3_2 (x4 + 1)
def fX12_cousinsOf_b5 (F : Nat) (S : St) (x1 : Int32) (x2 : Int32) (rec : Int32 → Int32 → Option Int32) (x3 : Int32) (x4 : Int32) : Option Int32 :=
  if (gI S 11 0 6) ≤ x4 then
    some x3
  else
    gd (ix x4 30) <|
    cal (fX12_has S (gA S 75 0 x4.toNatClampNeg) x1) fun b_1 =>
    if b_1 = 0 then
      fX12_cousinsOf_j47 F S x1 x2 x4 x3 rec
    else
      gd (ix x4 30) <|
      cal (fX12_has S (gA S 75 0 x4.toNatClampNeg) x2) fun b_3 =>
      if b_3 = 0 then
        fX12_cousinsOf_j47 F S x1 x2 x4 x3 rec
      else
        bnd (x3 + 1) fun x3_4 =>
        rec x3_4 (x4 + 1)
def fX12_cousinsOf_L5 (F : Nat) (S : St) (x1 : Int32) (x2 : Int32) : Nat → Int32 → Int32 → Option Int32
  | 0, _, _ => none
  | n + 1, x3, x4 => fX12_cousinsOf_b5 F S x1 x2 (fX12_cousinsOf_L5 F S x1 x2 n) x3 x4
def fX12_cousinsOf (F : Nat) (S : St) (p1 : Int32) (p2 : Int32) : Option Int32 :=
  fX12_cousinsOf_L5 F S p1 p2
    F 0 0
-- X12_cousins
def fX12_cousins (F : Nat) (S : St) (p1 : Int32) (p2 : Int32) : Option (Int32 × St) :=
  cal (fX12_isKin S p1) fun b_1 =>
  if b_1 = 0 then
    some ((-1), S)
  else
    cal (fX12_isKin S p2) fun b_2 =>
    if b_2 = 0 then
      some ((-1), S)
    else
      if p1 = p2 then
        some ((-1), S)
      else
        cal (fX12_layKins F S) fun b_3 =>
        cal (fX12_cousinsOf F b_3 p1 p2) fun b_4 =>
        some (b_4, b_3)
-- X12_settled
def fX12_settled_b48 (F : Nat) (x1 : Int32) (x2 : Int32) (x3 : Int32) (x4 : Int32) (k82 : St → Option (Int32 × St)) (rec : Int32 → St → Option (Int32 × St)) (x5 : Int32) (S : St) : Option (Int32 × St) :=
  if 10 ≤ x5 then
    k82 S
  else
    cal (fX12_cousinsOf F S x4 x5) fun b_5 =>
    gd (ix (((10 : Int32) * x4) + x5) 100) <|
    bnd (pA S 80 0 (((10 : Int32) * x4) + x5).toNatClampNeg b_5) fun S_6 =>
    rec (x5 + 1) S_6
def fX12_settled_L48 (F : Nat) (x1 : Int32) (x2 : Int32) (x3 : Int32) (x4 : Int32) (k82 : St → Option (Int32 × St)) : Nat → Int32 → St → Option (Int32 × St)
  | 0, _, _ => none
  | n + 1, x5, S => fX12_settled_b48 F x1 x2 x3 x4 k82 (fX12_settled_L48 F x1 x2 x3 x4 k82 n) x5 S
def fX12_settled_b38 (F : Nat) (x1 : Int32) (x2 : Int32) (x3 : Int32) (k88 : St → Option (Int32 × St)) (rec : Int32 → St → Option (Int32 × St)) (x4 : Int32) (S : St) : Option (Int32 × St) :=
  if 10 ≤ x4 then
    k88 S
  else
    fX12_settled_L48 F x1 x2 x3 x4
      (fun S_7 =>
        rec (x4 + 1) S_7
      )
      F 0 S
def fX12_settled_L38 (F : Nat) (x1 : Int32) (x2 : Int32) (x3 : Int32) (k88 : St → Option (Int32 × St)) : Nat → Int32 → St → Option (Int32 × St)
  | 0, _, _ => none
  | n + 1, x4, S => fX12_settled_b38 F x1 x2 x3 k88 (fX12_settled_L38 F x1 x2 x3 k88 n) x4 S
def fX12_settled_j185 (F : Nat) (S : St) (x1 : Int32) (x2 : Int32) (x3 : Int32) (x4 : Int32) (x5 : Int32) (x6 : Int32) (x8 : Int32) (x9 : Int32) (s0 : Int32) (rec : Int32 → Int32 → Option (Int32 × St)) : Option (Int32 × St) :=
  bnd (s0 + 0) fun x7_12 =>
  rec x7_12 (x9 + 1)
def fX12_settled_b140 (F : Nat) (S : St) (x1 : Int32) (x2 : Int32) (x3 : Int32) (x4 : Int32) (x5 : Int32) (x6 : Int32) (x8 : Int32) (k195 : Int32 → Option (Int32 × St)) (rec : Int32 → Int32 → Option (Int32 × St)) (x7 : Int32) (x9 : Int32) : Option (Int32 × St) :=
  if 10 ≤ x9 then
    k195 x7
  else
    cal (fX12_has S x6 x8) fun b_11 =>
    if b_11 = 0 then
      fX12_settled_j185 F S x1 x2 x3 x4 x5 x6 x8 x9 x7 rec
    else
      cal (fX12_has S x6 x9) fun b_13 =>
      if b_13 = 0 then
        gd (ix (((10 : Int32) * x8) + x9) 100) <|
        bnd (x7 + (gA S 80 0 (((10 : Int32) * x8) + x9).toNatClampNeg)) fun x7_14 =>
        rec x7_14 (x9 + 1)
      else
        fX12_settled_j185 F S x1 x2 x3 x4 x5 x6 x8 x9 x7 rec
def fX12_settled_L140 (F : Nat) (S : St) (x1 : Int32) (x2 : Int32) (x3 : Int32) (x4 : Int32) (x5 : Int32) (x6 : Int32) (x8 : Int32) (k195 : Int32 → Option (Int32 × St)) : Nat → Int32 → Int32 → Option (Int32 × St)
  | 0, _, _ => none
  | n + 1, x7, x9 => fX12_settled_b140 F S x1 x2 x3 x4 x5 x6 x8 k195 (fX12_settled_L140 F S x1 x2 x3 x4 x5 x6 x8 k195 n) x7 x9
def fX12_settled_b130 (F : Nat) (S : St) (x1 : Int32) (x2 : Int32) (x3 : Int32) (x4 : Int32) (x5 : Int32) (x6 : Int32) (k201 : Int32 → Option (Int32 × St)) (rec : Int32 → Int32 → Option (Int32 × St)) (x7 : Int32) (x8 : Int32) : Option (Int32 × St) :=
  if 10 ≤ x8 then
    k201 x7
  else
    fX12_settled_L140 F S x1 x2 x3 x4 x5 x6 x8
      (fun x7_15 =>
        rec x7_15 (x8 + 1)
      )
      F x7 0
def fX12_settled_L130 (F : Nat) (S : St) (x1 : Int32) (x2 : Int32) (x3 : Int32) (x4 : Int32) (x5 : Int32) (x6 : Int32) (k201 : Int32 → Option (Int32 × St)) : Nat → Int32 → Int32 → Option (Int32 × St)
  | 0, _, _ => none
  | n + 1, x7, x8 => fX12_settled_b130 F S x1 x2 x3 x4 x5 x6 k201 (fX12_settled_L130 F S x1 x2 x3 x4 x5 x6 k201 n) x7 x8
def fX12_settled_j215 (F : Nat) (S : St) (x1 : Int32) (x2 : Int32) (x3 : Int32) (x6 : Int32) (x7 : Int32) (rec : Int32 → Int32 → Int32 → Option (Int32 × St)) : Option (Int32 × St) :=
  rec x6 x7 (x6 + 1)
def fX12_settled_b98 (F : Nat) (S : St) (x1 : Int32) (x2 : Int32) (x3 : Int32) (k229 : Int32 → Int32 → Option (Int32 × St)) (rec : Int32 → Int32 → Int32 → Option (Int32 × St)) (x4 : Int32) (x5 : Int32) (x6 : Int32) : Option (Int32 × St) :=
  if 1024 ≤ x6 then
    k229 x4 x5
  else
    cal (fX12_has S x6 x1) fun b_9 =>
    if b_9 = 0 then
      rec x4 x5 (x6 + 1)
    else
      cal (fX12_bits F S x6) fun b_10 =>
      if b_10 = x2 then
        fX12_settled_L130 F S x1 x2 x3 x4 x5 x6
          (fun x7_16 =>
            if x4 = (-4) then
              fX12_settled_j215 F S x1 x2 x3 x6 x7_16 rec
            else
              if x5 ≤ x7_16 then
                rec x4 x5 (x6 + 1)
              else
                fX12_settled_j215 F S x1 x2 x3 x6 x7_16 rec
          )
          F 0 0
      else
        rec x4 x5 (x6 + 1)
def fX12_settled_L98 (F : Nat) (S : St) (x1 : Int32) (x2 : Int32) (x3 : Int32) (k229 : Int32 → Int32 → Option (Int32 × St)) : Nat → Int32 → Int32 → Int32 → Option (Int32 × St)
  | 0, _, _, _ => none
  | n + 1, x4, x5, x6 => fX12_settled_b98 F S x1 x2 x3 k229 (fX12_settled_L98 F S x1 x2 x3 k229 n) x4 x5 x6
def fX12_settled (F : Nat) (S : St) (p1 : Int32) (p2 : Int32) (p3 : Int32) : Option (Int32 × St) :=
  cal (fX12_isKin S p1) fun b_1 =>
  if b_1 = 0 then
    some ((-1), S)
  else
    cal (fX12_in S p2.toInt64 1 9) fun b_2 =>
    if b_2 = 0 then
      some ((-1), S)
    else
      cal (fX12_in S p3.toInt64 0 1) fun b_3 =>
      if b_3 = 0 then
        some ((-1), S)
      else
        cal (fX12_layKins F S) fun b_4 =>
        fX12_settled_L38 F p1 p2 p3
          (fun S_8 =>
            fX12_settled_L98 F S_8 p1 p2 p3
              (fun x4_17 x5_18 =>
                if p3 = 0 then
                  some (x4_17, S_8)
                else
                  some (x5_18, S_8)
              )
              F (-4) 0 0
          )
          F 0 b_4
-- X12_settlement
def fX12_settlement (S : St) (p1 : Int32) (p2 : Int32) : Option (Int32 × St) :=
  cal (fX12_in S p1.toInt64 1 100000) fun b_1 =>
  if b_1 = 0 then
    some ((-1), S)
  else
    cal (fX12_in S p2.toInt64 0 50) fun b_2 =>
    if b_2 = 0 then
      some ((-1), S)
    else
      if (gI S 11 0 25) = 8 then
        some ((-3), S)
      else
        gd (ix (gI S 11 0 25) 8) <|
        bnd (pA S 71 0 (gI S 11 0 25).toNatClampNeg p1) fun S_3 =>
        gd (ix (gI S_3 11 0 25) 8) <|
        bnd (pA S_3 72 0 (gI S_3 11 0 25).toNatClampNeg p2) fun S_4 =>
        bnd (pI S_4 11 0 25 ((gI S_4 11 0 25) + 1)) fun S_5 =>
        some ((gI S_5 11 0 25) - 1, S_5)
-- X12_toppedOf
def fX12_toppedOf_b6 (F : Nat) (S : St) (x1 : Int32) (rec : Int32 → Int32 → Option Int32) (x2 : Int32) (x3 : Int32) : Option Int32 :=
  if (gI S 11 0 25) ≤ x3 then
    some x2
  else
    gd (ix x3 8) <|
    gd (ix x1 8) <|
    gd (!(decide (100 = (0 : Int32)))) <|
    bnd (x2 + (((gA S 71 0 x3.toNatClampNeg) * (gA S 72 0 x1.toNatClampNeg)) / 100)) fun x2_2 =>
    rec x2_2 (x3 + 1)
def fX12_toppedOf_L6 (F : Nat) (S : St) (x1 : Int32) : Nat → Int32 → Int32 → Option Int32
  | 0, _, _ => none
  | n + 1, x2, x3 => fX12_toppedOf_b6 F S x1 (fX12_toppedOf_L6 F S x1 n) x2 x3
def fX12_toppedOf (F : Nat) (S : St) (p1 : Int32) : Option Int32 :=
  bnd (p1 + 1) fun x3_1 =>
  fX12_toppedOf_L6 F S p1
    F 0 x3_1
-- X12_topped
def fX12_topped_b34 (F : Nat) (S : St) (rec : Int32 → Int32 → Option Int32) (x2 : Int32) (x3 : Int32) : Option Int32 :=
  if (gI S 11 0 25) ≤ x3 then
    some x2
  else
    gd (ix x3 8) <|
    cal (fX12_toppedOf F S x3) fun b_2 =>
    bnd (x2 + ((gA S 71 0 x3.toNatClampNeg) + b_2)) fun x2_3 =>
    rec x2_3 (x3 + 1)
def fX12_topped_L34 (F : Nat) (S : St) : Nat → Int32 → Int32 → Option Int32
  | 0, _, _ => none
  | n + 1, x2, x3 => fX12_topped_b34 F S (fX12_topped_L34 F S n) x2 x3
def fX12_topped (F : Nat) (S : St) (p1 : Int32) : Option Int32 :=
  cal (fX12_in S p1.toInt64 (-1) ((gI S 11 0 25) - 1).toInt64) fun b_1 =>
  if b_1 = 0 then
    some (-1)
  else
    if p1 < 0 then
      fX12_topped_L34 F S
        F 0 0
    else
      cal (fX12_toppedOf F S p1) fun b_4 =>
      some b_4
-- X12_waits
def fX12_waits (F : Nat) (S : St) (p1 : Int32) (p2 : Int32) (p3 : Int32) : Option Int32 :=
  cal (fX12_sumOf F S p1 5) fun b_1 =>
  gd (ix (((6 : Int32) * p2) + 5) 54) <|
  bnd (b_1 + (gA S 70 0 (((6 : Int32) * p2) + 5).toNatClampNeg)) fun x4_2 =>
  gd (ix (((6 : Int32) * p2) + 1) 54) <|
  gd (!(decide (p3 = (0 : Int32)))) <|
  some ((gA S 70 0 (((6 : Int32) * p2) + 1).toNatClampNeg) * ((((x4_2 + p3) - 1) / p3) - 1))
-- X12_plan
def fX12_plan_j158 (F : Nat) (S : St) (x1 : Int32) (x3 : Int32) (x4 : Int32) (x5 : Int32) (x6 : Int32) (s0 : Int32) (s1 : Int32) (rec : Int32 → St → Option (Int32 × St)) : Option (Int32 × St) :=
  gd (ix s1 512) <|
  bnd (pA S 79 0 s1.toNatClampNeg s0) fun S_10 =>
  rec (x6 + 1) S_10
def fX12_plan_b80 (F : Nat) (x1 : Int32) (x3 : Int32) (x4 : Int32) (x5 : Int32) (k165 : St → Option (Int32 × St)) (rec : Int32 → St → Option (Int32 × St)) (x6 : Int32) (S : St) : Option (Int32 × St) :=
  if (gI S 11 0 23) ≤ x6 then
    k165 S
  else
    cal (fX12_has S (x4 &&& (x5 ^^^ (-1))) x6) fun b_7 =>
    if b_7 = 0 then
      rec (x6 + 1) S
    else
      cal (fX12_waits F S x5 x6 x1) fun b_8 =>
      gd (ix (x5 ||| ((1 : Int32) <<< (x6 &&& 31))) 512) <|
      bnd (b_8 + (gA S 79 0 (x5 ||| ((1 : Int32) <<< (x6 &&& 31))).toNatClampNeg)) fun x7_9 =>
      gd (ix x5 512) <|
      if (gA S 79 0 x5.toNatClampNeg) ≤ x7_9 then
        gd (ix x5 512) <|
        fX12_plan_j158 F S x1 x3 x4 x5 x6 (gA S 79 0 x5.toNatClampNeg) x5 rec
      else
        fX12_plan_j158 F S x1 x3 x4 x5 x6 x7_9 x5 rec
def fX12_plan_L80 (F : Nat) (x1 : Int32) (x3 : Int32) (x4 : Int32) (x5 : Int32) (k165 : St → Option (Int32 × St)) : Nat → Int32 → St → Option (Int32 × St)
  | 0, _, _ => none
  | n + 1, x6, S => fX12_plan_b80 F x1 x3 x4 x5 k165 (fX12_plan_L80 F x1 x3 x4 x5 k165 n) x6 S
def fX12_plan_b52 (F : Nat) (x1 : Int32) (x3 : Int32) (x4 : Int32) (k171 : St → Option (Int32 × St)) (rec : Int32 → St → Option (Int32 × St)) (x5 : Int32) (S : St) : Option (Int32 × St) :=
  if x5 < 0 then
    k171 S
  else
    if (x5 &&& (x4 ^^^ (-1))) = 0 then
      gd (ix x5 512) <|
      bnd (pA S 79 0 x5.toNatClampNeg 2000000000) fun S_6 =>
      fX12_plan_L80 F x1 x3 x4 x5
        (fun S_11 =>
          rec (x5 + (-1)) S_11
        )
        F 0 S_6
    else
      rec (x5 + (-1)) S
def fX12_plan_L52 (F : Nat) (x1 : Int32) (x3 : Int32) (x4 : Int32) (k171 : St → Option (Int32 × St)) : Nat → Int32 → St → Option (Int32 × St)
  | 0, _, _ => none
  | n + 1, x5, S => fX12_plan_b52 F x1 x3 x4 k171 (fX12_plan_L52 F x1 x3 x4 k171 n) x5 S
def fX12_plan_b217 (F : Nat) (S : St) (x1 : Int32) (x3 : Int32) (x4 : Int32) (x5 : Int32) (x7 : Int32) (k295 : Int32 → Option (Int32 × St)) (rec : Int32 → Int32 → Option (Int32 × St)) (x6 : Int32) (x8 : Int32) : Option (Int32 × St) :=
  if (gI S 11 0 23) ≤ x8 then
    k295 x6
  else
    if x6 = (-4) then
      cal (fX12_has S (x4 &&& (x5 ^^^ (-1))) x8) fun b_14 =>
      if b_14 = 0 then
        rec (-4) (x8 + 1)
      else
        cal (fX12_waits F S x5 x8 x1) fun b_15 =>
        gd (ix (x5 ||| ((1 : Int32) <<< (x8 &&& 31))) 512) <|
        gd (ix x5 512) <|
        if (b_15 + (gA S 79 0 (x5 ||| ((1 : Int32) <<< (x8 &&& 31))).toNatClampNeg)) = (gA S 79 0 x5.toNatClampNeg) then
          rec x8 (x8 + 1)
        else
          rec (-4) (x8 + 1)
    else
      k295 x6
def fX12_plan_L217 (F : Nat) (S : St) (x1 : Int32) (x3 : Int32) (x4 : Int32) (x5 : Int32) (x7 : Int32) (k295 : Int32 → Option (Int32 × St)) : Nat → Int32 → Int32 → Option (Int32 × St)
  | 0, _, _ => none
  | n + 1, x6, x8 => fX12_plan_b217 F S x1 x3 x4 x5 x7 k295 (fX12_plan_L217 F S x1 x3 x4 x5 x7 k295 n) x6 x8
def fX12_plan_j295 (F : Nat) (S : St) (x1 : Int32) (x3 : Int32) (x4 : Int32) (x5 : Int32) (x6 : Int32) (x7 : Int32) (rec : Int32 → Int32 → Int32 → Option (Int32 × St)) : Option (Int32 × St) :=
  bnd (x5 ||| ((1 : Int32) <<< (x6 &&& 31))) fun x5_17 =>
  rec x5_17 x6 (x7 + 1)
def fX12_plan_b204 (F : Nat) (S : St) (x1 : Int32) (x3 : Int32) (x4 : Int32) (rec : Int32 → Int32 → Int32 → Option (Int32 × St)) (x5 : Int32) (x6 : Int32) (x7 : Int32) : Option (Int32 × St) :=
  if x3 < x7 then
    some (x6, S)
  else
    fX12_plan_L217 F S x1 x3 x4 x5 x7
      (fun x6_16 =>
        fX12_plan_j295 F S x1 x3 x4 x5 x6_16 x7 rec
      )
      F (-4) 0
def fX12_plan_L204 (F : Nat) (S : St) (x1 : Int32) (x3 : Int32) (x4 : Int32) : Nat → Int32 → Int32 → Int32 → Option (Int32 × St)
  | 0, _, _, _ => none
  | n + 1, x5, x6, x7 => fX12_plan_b204 F S x1 x3 x4 (fX12_plan_L204 F S x1 x3 x4 n) x5 x6 x7
def fX12_plan (F : Nat) (S : St) (p1 : Int32) (p2 : Int32) (p3 : Int32) : Option (Int32 × St) :=
  cal (fX12_in S p1.toInt64 1 1000) fun b_1 =>
  if b_1 = 0 then
    some ((-1), S)
  else
    cal (fX12_in S p2.toInt64 0 255) fun b_2 =>
    if b_2 = 0 then
      some ((-1), S)
    else
      if (-1) ≤ p3 then
        cal (fX12_foundedBy F S p2) fun b_3 =>
        gd (ix b_3 512) <|
        bnd (pA S 79 0 b_3.toNatClampNeg 0) fun S_4 =>
        bnd (b_3 - 1) fun x5_5 =>
        fX12_plan_L52 F p1 p3 b_3
          (fun S_12 =>
            if 0 ≤ p3 then
              cal (fX12_bits F S_12 b_3) fun b_13 =>
              if p3 < b_13 then
                fX12_plan_L204 F S_12 p1 p3 b_3
                  F 0 (-4) 0
              else
                some ((-4), S_12)
            else
              gd (ix 0 512) <|
              some (gA S_12 79 0 (0 : Int32).toNatClampNeg, S_12)
          )
          F x5_5 S_4
      else
        some ((-1), S)
-- X12_count
def fX12_count_j64 (S : St) (x1 : Int32) : Option Int32 :=
  gd (ix x1 3) <|
  some (gA S 55 0 x1.toNatClampNeg)
def fX12_count_j111 (S : St) (x1 : Int32) : Option Int32 :=
  gd (ix (x1 - 10) 2) <|
  some (gA S 53 0 (x1 - 10).toNatClampNeg)
def fX12_count (S : St) (p1 : Int32) : Option Int32 :=
  if p1 = 0 then
    fX12_count_j64 S p1
  else
  if p1 = 1 then
    fX12_count_j64 S p1
  else
  if p1 = 2 then
    some (gI S 11 0 6)
  else
  if p1 = 3 then
    some (gI S 11 0 11)
  else
  if p1 = 4 then
    some (gI S 11 0 13)
  else
  if p1 = 5 then
    some (gI S 11 0 15)
  else
  if p1 = 6 then
    some (gI S 11 0 17)
  else
  if p1 = 7 then
    some (gI S 11 0 19)
  else
  if p1 = 8 then
    some (gI S 11 0 23)
  else
  if p1 = 9 then
    some (gI S 11 0 25)
  else
  if p1 = 10 then
    fX12_count_j111 S p1
  else
  if p1 = 11 then
    fX12_count_j111 S p1
  else
  some (-1)
