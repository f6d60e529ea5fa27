section JROWS
variable {ρ : Type} {X : Ctx} {ad : Nat → Nat → Nat} {γ : Nat → Nat} {RQ : ρ → Room × (State → Prop)} {fc : ρ → Nat} {fr lo : Nat} {cc : ByteArray} {nL : Nat} {own : String} {Ts : List Cond} {ret : Option FieldType} {code : Option ρ} {S : St} {lv lv2 : List (Nat × Value)} {st : List Value}
theorem j_iconst (pc : Nat)  {n : Int} {v : Int32} (d : decode cc pc = .ok (.iconst n, 1)) (hv : Int32.ofInt n = v) (kk : JJ X ad γ RQ fc fr lo cc nL own Ts ret (code) S (pc + 1) lv (.int v :: st)) : JJ X ad γ RQ fc fr lo cc nL own Ts ret (code) S pc lv (st) := by
  obtain ⟨p, l, e, s, m, args, below, meth, c, dC, dI, cy, A, c0, bc, bs⟩ := X
  intro o ho
  obtain ⟨h1, h2⟩ := kk o ho
  exact ⟨h1, fun hX H locs ls hl hP hD hS hc => by
        have h2 := h2 hX
        obtain ⟨hx, hb, hml, hown, hts, hK, hA, hlocks, hN, hR, hrt⟩ := hX
        exact lv_iconst hx hb d hv (h2 H locs ls hl hP hD hS hc)⟩
theorem j_bipush (pc : Nat)  {n : Int} {v : Int32} (d : decode cc pc = .ok (.bipush n, 2)) (hv : (Int8.ofInt n).toInt32 = v) (kk : JJ X ad γ RQ fc fr lo cc nL own Ts ret (code) S (pc + 2) lv (.int v :: st)) : JJ X ad γ RQ fc fr lo cc nL own Ts ret (code) S pc lv (st) := by
  obtain ⟨p, l, e, s, m, args, below, meth, c, dC, dI, cy, A, c0, bc, bs⟩ := X
  intro o ho
  obtain ⟨h1, h2⟩ := kk o ho
  exact ⟨h1, fun hX H locs ls hl hP hD hS hc => by
        have h2 := h2 hX
        obtain ⟨hx, hb, hml, hown, hts, hK, hA, hlocks, hN, hR, hrt⟩ := hX
        exact lv_bipush hx hb d hv (h2 H locs ls hl hP hD hS hc)⟩
theorem j_sipush (pc : Nat)  {n : Int} {v : Int32} (d : decode cc pc = .ok (.sipush n, 3)) (hv : (Int16.ofInt n).toInt32 = v) (kk : JJ X ad γ RQ fc fr lo cc nL own Ts ret (code) S (pc + 3) lv (.int v :: st)) : JJ X ad γ RQ fc fr lo cc nL own Ts ret (code) S pc lv (st) := by
  obtain ⟨p, l, e, s, m, args, below, meth, c, dC, dI, cy, A, c0, bc, bs⟩ := X
  intro o ho
  obtain ⟨h1, h2⟩ := kk o ho
  exact ⟨h1, fun hX H locs ls hl hP hD hS hc => by
        have h2 := h2 hX
        obtain ⟨hx, hb, hml, hown, hts, hK, hA, hlocks, hN, hR, hrt⟩ := hX
        exact lv_sipush hx hb d hv (h2 H locs ls hl hP hD hS hc)⟩
theorem j_lconst (pc : Nat)  {n : Fin 2} {v : Int64} (d : decode cc pc = .ok (.lconst n, 1)) (hv : Int64.ofNat (n : Nat) = v) (kk : JJ X ad γ RQ fc fr lo cc nL own Ts ret (code) S (pc + 1) lv (.long v :: st)) : JJ X ad γ RQ fc fr lo cc nL own Ts ret (code) S pc lv (st) := by
  obtain ⟨p, l, e, s, m, args, below, meth, c, dC, dI, cy, A, c0, bc, bs⟩ := X
  intro o ho
  obtain ⟨h1, h2⟩ := kk o ho
  exact ⟨h1, fun hX H locs ls hl hP hD hS hc => by
        have h2 := h2 hX
        obtain ⟨hx, hb, hml, hown, hts, hK, hA, hlocks, hN, hR, hrt⟩ := hX
        exact lv_lconst hx hb d hv (h2 H locs ls hl hP hD hS hc)⟩
theorem j_iadd (pc : Nat)  {x y : Int32} (d : decode cc pc = .ok (.iadd, 1))  (kk : JJ X ad γ RQ fc fr lo cc nL own Ts ret (code) S (pc + 1) lv (.int (x + y) :: st)) : JJ X ad γ RQ fc fr lo cc nL own Ts ret (code) S pc lv (.int y :: .int x :: st) := by
  obtain ⟨p, l, e, s, m, args, below, meth, c, dC, dI, cy, A, c0, bc, bs⟩ := X
  intro o ho
  obtain ⟨h1, h2⟩ := kk o ho
  exact ⟨h1, fun hX H locs ls hl hP hD hS hc => by
        have h2 := h2 hX
        obtain ⟨hx, hb, hml, hown, hts, hK, hA, hlocks, hN, hR, hrt⟩ := hX
        exact lv_iadd hx hb d  (h2 H locs ls hl hP hD hS hc)⟩
theorem j_isub (pc : Nat)  {x y : Int32} (d : decode cc pc = .ok (.isub, 1))  (kk : JJ X ad γ RQ fc fr lo cc nL own Ts ret (code) S (pc + 1) lv (.int (x - y) :: st)) : JJ X ad γ RQ fc fr lo cc nL own Ts ret (code) S pc lv (.int y :: .int x :: st) := by
  obtain ⟨p, l, e, s, m, args, below, meth, c, dC, dI, cy, A, c0, bc, bs⟩ := X
  intro o ho
  obtain ⟨h1, h2⟩ := kk o ho
  exact ⟨h1, fun hX H locs ls hl hP hD hS hc => by
        have h2 := h2 hX
        obtain ⟨hx, hb, hml, hown, hts, hK, hA, hlocks, hN, hR, hrt⟩ := hX
        exact lv_isub hx hb d  (h2 H locs ls hl hP hD hS hc)⟩
theorem j_imul (pc : Nat)  {x y : Int32} (d : decode cc pc = .ok (.imul, 1))  (kk : JJ X ad γ RQ fc fr lo cc nL own Ts ret (code) S (pc + 1) lv (.int (x * y) :: st)) : JJ X ad γ RQ fc fr lo cc nL own Ts ret (code) S pc lv (.int y :: .int x :: st) := by
  obtain ⟨p, l, e, s, m, args, below, meth, c, dC, dI, cy, A, c0, bc, bs⟩ := X
  intro o ho
  obtain ⟨h1, h2⟩ := kk o ho
  exact ⟨h1, fun hX H locs ls hl hP hD hS hc => by
        have h2 := h2 hX
        obtain ⟨hx, hb, hml, hown, hts, hK, hA, hlocks, hN, hR, hrt⟩ := hX
        exact lv_imul hx hb d  (h2 H locs ls hl hP hD hS hc)⟩
theorem j_iand (pc : Nat)  {x y : Int32} (d : decode cc pc = .ok (.iand, 1))  (kk : JJ X ad γ RQ fc fr lo cc nL own Ts ret (code) S (pc + 1) lv (.int (x &&& y) :: st)) : JJ X ad γ RQ fc fr lo cc nL own Ts ret (code) S pc lv (.int y :: .int x :: st) := by
  obtain ⟨p, l, e, s, m, args, below, meth, c, dC, dI, cy, A, c0, bc, bs⟩ := X
  intro o ho
  obtain ⟨h1, h2⟩ := kk o ho
  exact ⟨h1, fun hX H locs ls hl hP hD hS hc => by
        have h2 := h2 hX
        obtain ⟨hx, hb, hml, hown, hts, hK, hA, hlocks, hN, hR, hrt⟩ := hX
        exact lv_iand hx hb d  (h2 H locs ls hl hP hD hS hc)⟩
theorem j_ior (pc : Nat)  {x y : Int32} (d : decode cc pc = .ok (.ior, 1))  (kk : JJ X ad γ RQ fc fr lo cc nL own Ts ret (code) S (pc + 1) lv (.int (x ||| y) :: st)) : JJ X ad γ RQ fc fr lo cc nL own Ts ret (code) S pc lv (.int y :: .int x :: st) := by
  obtain ⟨p, l, e, s, m, args, below, meth, c, dC, dI, cy, A, c0, bc, bs⟩ := X
  intro o ho
  obtain ⟨h1, h2⟩ := kk o ho
  exact ⟨h1, fun hX H locs ls hl hP hD hS hc => by
        have h2 := h2 hX
        obtain ⟨hx, hb, hml, hown, hts, hK, hA, hlocks, hN, hR, hrt⟩ := hX
        exact lv_ior hx hb d  (h2 H locs ls hl hP hD hS hc)⟩
theorem j_ixor (pc : Nat)  {x y : Int32} (d : decode cc pc = .ok (.ixor, 1))  (kk : JJ X ad γ RQ fc fr lo cc nL own Ts ret (code) S (pc + 1) lv (.int (x ^^^ y) :: st)) : JJ X ad γ RQ fc fr lo cc nL own Ts ret (code) S pc lv (.int y :: .int x :: st) := by
  obtain ⟨p, l, e, s, m, args, below, meth, c, dC, dI, cy, A, c0, bc, bs⟩ := X
  intro o ho
  obtain ⟨h1, h2⟩ := kk o ho
  exact ⟨h1, fun hX H locs ls hl hP hD hS hc => by
        have h2 := h2 hX
        obtain ⟨hx, hb, hml, hown, hts, hK, hA, hlocks, hN, hR, hrt⟩ := hX
        exact lv_ixor hx hb d  (h2 H locs ls hl hP hD hS hc)⟩
theorem j_ishl (pc : Nat)  {x y : Int32} (d : decode cc pc = .ok (.ishl, 1))  (kk : JJ X ad γ RQ fc fr lo cc nL own Ts ret (code) S (pc + 1) lv (.int (x <<< (y &&& 31)) :: st)) : JJ X ad γ RQ fc fr lo cc nL own Ts ret (code) S pc lv (.int y :: .int x :: st) := by
  obtain ⟨p, l, e, s, m, args, below, meth, c, dC, dI, cy, A, c0, bc, bs⟩ := X
  intro o ho
  obtain ⟨h1, h2⟩ := kk o ho
  exact ⟨h1, fun hX H locs ls hl hP hD hS hc => by
        have h2 := h2 hX
        obtain ⟨hx, hb, hml, hown, hts, hK, hA, hlocks, hN, hR, hrt⟩ := hX
        exact lv_ishl hx hb d  (h2 H locs ls hl hP hD hS hc)⟩
theorem j_ishr (pc : Nat)  {x y : Int32} (d : decode cc pc = .ok (.ishr, 1))  (kk : JJ X ad γ RQ fc fr lo cc nL own Ts ret (code) S (pc + 1) lv (.int (x >>> (y &&& 31)) :: st)) : JJ X ad γ RQ fc fr lo cc nL own Ts ret (code) S pc lv (.int y :: .int x :: st) := by
  obtain ⟨p, l, e, s, m, args, below, meth, c, dC, dI, cy, A, c0, bc, bs⟩ := X
  intro o ho
  obtain ⟨h1, h2⟩ := kk o ho
  exact ⟨h1, fun hX H locs ls hl hP hD hS hc => by
        have h2 := h2 hX
        obtain ⟨hx, hb, hml, hown, hts, hK, hA, hlocks, hN, hR, hrt⟩ := hX
        exact lv_ishr hx hb d  (h2 H locs ls hl hP hD hS hc)⟩
theorem j_ladd (pc : Nat)  {x y : Int64} (d : decode cc pc = .ok (.ladd, 1))  (kk : JJ X ad γ RQ fc fr lo cc nL own Ts ret (code) S (pc + 1) lv (.long (x + y) :: st)) : JJ X ad γ RQ fc fr lo cc nL own Ts ret (code) S pc lv (.long y :: .long x :: st) := by
  obtain ⟨p, l, e, s, m, args, below, meth, c, dC, dI, cy, A, c0, bc, bs⟩ := X
  intro o ho
  obtain ⟨h1, h2⟩ := kk o ho
  exact ⟨h1, fun hX H locs ls hl hP hD hS hc => by
        have h2 := h2 hX
        obtain ⟨hx, hb, hml, hown, hts, hK, hA, hlocks, hN, hR, hrt⟩ := hX
        exact lv_ladd hx hb d  (h2 H locs ls hl hP hD hS hc)⟩
theorem j_lsub (pc : Nat)  {x y : Int64} (d : decode cc pc = .ok (.lsub, 1))  (kk : JJ X ad γ RQ fc fr lo cc nL own Ts ret (code) S (pc + 1) lv (.long (x - y) :: st)) : JJ X ad γ RQ fc fr lo cc nL own Ts ret (code) S pc lv (.long y :: .long x :: st) := by
  obtain ⟨p, l, e, s, m, args, below, meth, c, dC, dI, cy, A, c0, bc, bs⟩ := X
  intro o ho
  obtain ⟨h1, h2⟩ := kk o ho
  exact ⟨h1, fun hX H locs ls hl hP hD hS hc => by
        have h2 := h2 hX
        obtain ⟨hx, hb, hml, hown, hts, hK, hA, hlocks, hN, hR, hrt⟩ := hX
        exact lv_lsub hx hb d  (h2 H locs ls hl hP hD hS hc)⟩
theorem j_lmul (pc : Nat)  {x y : Int64} (d : decode cc pc = .ok (.lmul, 1))  (kk : JJ X ad γ RQ fc fr lo cc nL own Ts ret (code) S (pc + 1) lv (.long (x * y) :: st)) : JJ X ad γ RQ fc fr lo cc nL own Ts ret (code) S pc lv (.long y :: .long x :: st) := by
  obtain ⟨p, l, e, s, m, args, below, meth, c, dC, dI, cy, A, c0, bc, bs⟩ := X
  intro o ho
  obtain ⟨h1, h2⟩ := kk o ho
  exact ⟨h1, fun hX H locs ls hl hP hD hS hc => by
        have h2 := h2 hX
        obtain ⟨hx, hb, hml, hown, hts, hK, hA, hlocks, hN, hR, hrt⟩ := hX
        exact lv_lmul hx hb d  (h2 H locs ls hl hP hD hS hc)⟩
theorem j_land (pc : Nat)  {x y : Int64} (d : decode cc pc = .ok (.land, 1))  (kk : JJ X ad γ RQ fc fr lo cc nL own Ts ret (code) S (pc + 1) lv (.long (x &&& y) :: st)) : JJ X ad γ RQ fc fr lo cc nL own Ts ret (code) S pc lv (.long y :: .long x :: st) := by
  obtain ⟨p, l, e, s, m, args, below, meth, c, dC, dI, cy, A, c0, bc, bs⟩ := X
  intro o ho
  obtain ⟨h1, h2⟩ := kk o ho
  exact ⟨h1, fun hX H locs ls hl hP hD hS hc => by
        have h2 := h2 hX
        obtain ⟨hx, hb, hml, hown, hts, hK, hA, hlocks, hN, hR, hrt⟩ := hX
        exact lv_land hx hb d  (h2 H locs ls hl hP hD hS hc)⟩
theorem j_lor (pc : Nat)  {x y : Int64} (d : decode cc pc = .ok (.lor, 1))  (kk : JJ X ad γ RQ fc fr lo cc nL own Ts ret (code) S (pc + 1) lv (.long (x ||| y) :: st)) : JJ X ad γ RQ fc fr lo cc nL own Ts ret (code) S pc lv (.long y :: .long x :: st) := by
  obtain ⟨p, l, e, s, m, args, below, meth, c, dC, dI, cy, A, c0, bc, bs⟩ := X
  intro o ho
  obtain ⟨h1, h2⟩ := kk o ho
  exact ⟨h1, fun hX H locs ls hl hP hD hS hc => by
        have h2 := h2 hX
        obtain ⟨hx, hb, hml, hown, hts, hK, hA, hlocks, hN, hR, hrt⟩ := hX
        exact lv_lor hx hb d  (h2 H locs ls hl hP hD hS hc)⟩
theorem j_lshr (pc : Nat)  {x : Int64} {y : Int32} (d : decode cc pc = .ok (.lshr, 1))  (kk : JJ X ad γ RQ fc fr lo cc nL own Ts ret (code) S (pc + 1) lv (.long (x >>> (y.toInt64 &&& 63)) :: st)) : JJ X ad γ RQ fc fr lo cc nL own Ts ret (code) S pc lv (.int y :: .long x :: st) := by
  obtain ⟨p, l, e, s, m, args, below, meth, c, dC, dI, cy, A, c0, bc, bs⟩ := X
  intro o ho
  obtain ⟨h1, h2⟩ := kk o ho
  exact ⟨h1, fun hX H locs ls hl hP hD hS hc => by
        have h2 := h2 hX
        obtain ⟨hx, hb, hml, hown, hts, hK, hA, hlocks, hN, hR, hrt⟩ := hX
        exact lv_lshr hx hb d rfl (h2 H locs ls hl hP hD hS hc)⟩
theorem j_lshl (pc : Nat)  {x : Int64} {y : Int32} (d : decode cc pc = .ok (.lshl, 1))  (kk : JJ X ad γ RQ fc fr lo cc nL own Ts ret (code) S (pc + 1) lv (.long (x <<< (y.toInt64 &&& 63)) :: st)) : JJ X ad γ RQ fc fr lo cc nL own Ts ret (code) S pc lv (.int y :: .long x :: st) := by
  obtain ⟨p, l, e, s, m, args, below, meth, c, dC, dI, cy, A, c0, bc, bs⟩ := X
  intro o ho
  obtain ⟨h1, h2⟩ := kk o ho
  exact ⟨h1, fun hX H locs ls hl hP hD hS hc => by
        have h2 := h2 hX
        obtain ⟨hx, hb, hml, hown, hts, hK, hA, hlocks, hN, hR, hrt⟩ := hX
        exact lv_lshl hx hb d rfl (h2 H locs ls hl hP hD hS hc)⟩
theorem j_iushr (pc : Nat)  {x y v : Int32} (d : decode cc pc = .ok (.iushr, 1)) (hv : (x.toUInt32 >>> (y.toUInt32 &&& Int32.toUInt32 31)).toInt32 = v) (kk : JJ X ad γ RQ fc fr lo cc nL own Ts ret (code) S (pc + 1) lv (.int v :: st)) : JJ X ad γ RQ fc fr lo cc nL own Ts ret (code) S pc lv (.int y :: .int x :: st) := by
  obtain ⟨p, l, e, s, m, args, below, meth, c, dC, dI, cy, A, c0, bc, bs⟩ := X
  intro o ho
  obtain ⟨h1, h2⟩ := kk o ho
  exact ⟨h1, fun hX H locs ls hl hP hD hS hc => by
        have h2 := h2 hX
        obtain ⟨hx, hb, hml, hown, hts, hK, hA, hlocks, hN, hR, hrt⟩ := hX
        exact lv_iushr hx hb d hv (h2 H locs ls hl hP hD hS hc)⟩
theorem j_i2l (pc : Nat)  {x : Int32} (d : decode cc pc = .ok (.i2l, 1))  (kk : JJ X ad γ RQ fc fr lo cc nL own Ts ret (code) S (pc + 1) lv (.long x.toInt64 :: st)) : JJ X ad γ RQ fc fr lo cc nL own Ts ret (code) S pc lv (.int x :: st) := by
  obtain ⟨p, l, e, s, m, args, below, meth, c, dC, dI, cy, A, c0, bc, bs⟩ := X
  intro o ho
  obtain ⟨h1, h2⟩ := kk o ho
  exact ⟨h1, fun hX H locs ls hl hP hD hS hc => by
        have h2 := h2 hX
        obtain ⟨hx, hb, hml, hown, hts, hK, hA, hlocks, hN, hR, hrt⟩ := hX
        exact lv_i2l hx hb d rfl (h2 H locs ls hl hP hD hS hc)⟩
theorem j_l2i (pc : Nat)  {x : Int64} (d : decode cc pc = .ok (.l2i, 1))  (kk : JJ X ad γ RQ fc fr lo cc nL own Ts ret (code) S (pc + 1) lv (.int x.toInt32 :: st)) : JJ X ad γ RQ fc fr lo cc nL own Ts ret (code) S pc lv (.long x :: st) := by
  obtain ⟨p, l, e, s, m, args, below, meth, c, dC, dI, cy, A, c0, bc, bs⟩ := X
  intro o ho
  obtain ⟨h1, h2⟩ := kk o ho
  exact ⟨h1, fun hX H locs ls hl hP hD hS hc => by
        have h2 := h2 hX
        obtain ⟨hx, hb, hml, hown, hts, hK, hA, hlocks, hN, hR, hrt⟩ := hX
        exact lv_l2i hx hb d rfl (h2 H locs ls hl hP hD hS hc)⟩
theorem j_i2b (pc : Nat)  {x : Int32} (d : decode cc pc = .ok (.i2b, 1))  (kk : JJ X ad γ RQ fc fr lo cc nL own Ts ret (code) S (pc + 1) lv (.int x.toInt8.toInt32 :: st)) : JJ X ad γ RQ fc fr lo cc nL own Ts ret (code) S pc lv (.int x :: st) := by
  obtain ⟨p, l, e, s, m, args, below, meth, c, dC, dI, cy, A, c0, bc, bs⟩ := X
  intro o ho
  obtain ⟨h1, h2⟩ := kk o ho
  exact ⟨h1, fun hX H locs ls hl hP hD hS hc => by
        have h2 := h2 hX
        obtain ⟨hx, hb, hml, hown, hts, hK, hA, hlocks, hN, hR, hrt⟩ := hX
        exact lv_i2b hx hb d rfl (h2 H locs ls hl hP hD hS hc)⟩
theorem j_lcmp (pc : Nat)  {x y : Int64} (d : decode cc pc = .ok (.lcmp, 1))  (kk : JJ X ad γ RQ fc fr lo cc nL own Ts ret (code) S (pc + 1) lv (.int (lg_cmp x y) :: st)) : JJ X ad γ RQ fc fr lo cc nL own Ts ret (code) S pc lv (.long y :: .long x :: st) := by
  obtain ⟨p, l, e, s, m, args, below, meth, c, dC, dI, cy, A, c0, bc, bs⟩ := X
  intro o ho
  obtain ⟨h1, h2⟩ := kk o ho
  exact ⟨h1, fun hX H locs ls hl hP hD hS hc => by
        have h2 := h2 hX
        obtain ⟨hx, hb, hml, hown, hts, hK, hA, hlocks, hN, hR, hrt⟩ := hX
        exact W.lcmp hx hb d  (h2 H locs ls hl hP hD hS hc)⟩
theorem j_dup (pc : Nat)  {va : Value} (d : decode cc pc = .ok (.dup, 1)) (ha : va.category = 1) (kk : JJ X ad γ RQ fc fr lo cc nL own Ts ret (code) S (pc + 1) lv (va :: va :: st)) : JJ X ad γ RQ fc fr lo cc nL own Ts ret (code) S pc lv (va :: st) := by
  obtain ⟨p, l, e, s, m, args, below, meth, c, dC, dI, cy, A, c0, bc, bs⟩ := X
  intro o ho
  obtain ⟨h1, h2⟩ := kk o ho
  exact ⟨h1, fun hX H locs ls hl hP hD hS hc => by
        have h2 := h2 hX
        obtain ⟨hx, hb, hml, hown, hts, hK, hA, hlocks, hN, hR, hrt⟩ := hX
        exact lv_dup hx hb d ha (h2 H locs ls hl hP hD hS hc)⟩
theorem j_dup2 (pc : Nat)  {va vb : Value} (d : decode cc pc = .ok (.dup2, 1)) (ha : va.category = 1) (hb1 : vb.category = 1) (kk : JJ X ad γ RQ fc fr lo cc nL own Ts ret (code) S (pc + 1) lv (va :: vb :: va :: vb :: st)) : JJ X ad γ RQ fc fr lo cc nL own Ts ret (code) S pc lv (va :: vb :: st) := by
  obtain ⟨p, l, e, s, m, args, below, meth, c, dC, dI, cy, A, c0, bc, bs⟩ := X
  intro o ho
  obtain ⟨h1, h2⟩ := kk o ho
  exact ⟨h1, fun hX H locs ls hl hP hD hS hc => by
        have h2 := h2 hX
        obtain ⟨hx, hb, hml, hown, hts, hK, hA, hlocks, hN, hR, hrt⟩ := hX
        exact lv_dup2_11 hx hb d ha hb1 (h2 H locs ls hl hP hD hS hc)⟩
theorem j_dup_x1 (pc : Nat)  {va vb : Value} (d : decode cc pc = .ok (.dup_x1, 1)) (ha : va.category = 1) (hb1 : vb.category = 1) (kk : JJ X ad γ RQ fc fr lo cc nL own Ts ret (code) S (pc + 1) lv (va :: vb :: va :: st)) : JJ X ad γ RQ fc fr lo cc nL own Ts ret (code) S pc lv (va :: vb :: st) := by
  obtain ⟨p, l, e, s, m, args, below, meth, c, dC, dI, cy, A, c0, bc, bs⟩ := X
  intro o ho
  obtain ⟨h1, h2⟩ := kk o ho
  exact ⟨h1, fun hX H locs ls hl hP hD hS hc => by
        have h2 := h2 hX
        obtain ⟨hx, hb, hml, hown, hts, hK, hA, hlocks, hN, hR, hrt⟩ := hX
        exact lv_dup_x1 hx hb d ha hb1 (h2 H locs ls hl hP hD hS hc)⟩
theorem j_pop (pc : Nat)  {va : Value} (d : decode cc pc = .ok (.pop, 1)) (ha : va.category = 1) (kk : JJ X ad γ RQ fc fr lo cc nL own Ts ret (code) S (pc + 1) lv (st)) : JJ X ad γ RQ fc fr lo cc nL own Ts ret (code) S pc lv (va :: st) := by
  obtain ⟨p, l, e, s, m, args, below, meth, c, dC, dI, cy, A, c0, bc, bs⟩ := X
  intro o ho
  obtain ⟨h1, h2⟩ := kk o ho
  exact ⟨h1, fun hX H locs ls hl hP hD hS hc => by
        have h2 := h2 hX
        obtain ⟨hx, hb, hml, hown, hts, hK, hA, hlocks, hN, hR, hrt⟩ := hX
        exact lv_pop hx hb d ha (h2 H locs ls hl hP hD hS hc)⟩
theorem j_idiv (pc : Nat)  {x y : Int32} (d : decode cc pc = .ok (.idiv, 1)) (kk : JJ X ad γ RQ fc fr lo cc nL own Ts ret (code) S (pc + 1) lv (.int (x / y) :: st)) : JJ X ad γ RQ fc fr lo cc nL own Ts ret (gd (!(decide (y = 0))) code) S pc lv (.int y :: .int x :: st) := by
  obtain ⟨p, l, e, s, m, args, below, meth, c, dC, dI, cy, A, c0, bc, bs⟩ := X
  intro o ho
  obtain ⟨hq, ho⟩ := gd_some ho
  obtain ⟨h1, h2⟩ := kk o ho
  have hq : ¬ y = 0 := by simpa using hq
  exact ⟨h1, fun hX H locs ls hl hP hD hS hc => by
        have h2 := h2 hX
        obtain ⟨hx, hb, hml, hown, hts, hK, hA, hlocks, hN, hR, hrt⟩ := hX
        exact lv_idiv hx hb d hq (h2 H locs ls hl hP hD hS hc)⟩
theorem j_irem (pc : Nat)  {x y : Int32} (d : decode cc pc = .ok (.irem, 1)) (kk : JJ X ad γ RQ fc fr lo cc nL own Ts ret (code) S (pc + 1) lv (.int (x - x / y * y) :: st)) : JJ X ad γ RQ fc fr lo cc nL own Ts ret (gd (!(decide (y = 0))) code) S pc lv (.int y :: .int x :: st) := by
  obtain ⟨p, l, e, s, m, args, below, meth, c, dC, dI, cy, A, c0, bc, bs⟩ := X
  intro o ho
  obtain ⟨hq, ho⟩ := gd_some ho
  obtain ⟨h1, h2⟩ := kk o ho
  have hq : ¬ y = 0 := by simpa using hq
  exact ⟨h1, fun hX H locs ls hl hP hD hS hc => by
        have h2 := h2 hX
        obtain ⟨hx, hb, hml, hown, hts, hK, hA, hlocks, hN, hR, hrt⟩ := hX
        exact lv_irem hx hb d hq (h2 H locs ls hl hP hD hS hc)⟩
theorem j_ldiv (pc : Nat)  {x y : Int64} (d : decode cc pc = .ok (.ldiv, 1)) (kk : JJ X ad γ RQ fc fr lo cc nL own Ts ret (code) S (pc + 1) lv (.long (x / y) :: st)) : JJ X ad γ RQ fc fr lo cc nL own Ts ret (gd (!(decide (y = 0))) code) S pc lv (.long y :: .long x :: st) := by
  obtain ⟨p, l, e, s, m, args, below, meth, c, dC, dI, cy, A, c0, bc, bs⟩ := X
  intro o ho
  obtain ⟨hq, ho⟩ := gd_some ho
  obtain ⟨h1, h2⟩ := kk o ho
  have hq : ¬ y = 0 := by simpa using hq
  exact ⟨h1, fun hX H locs ls hl hP hD hS hc => by
        have h2 := h2 hX
        obtain ⟨hx, hb, hml, hown, hts, hK, hA, hlocks, hN, hR, hrt⟩ := hX
        exact lv_ldiv hx hb d hq (h2 H locs ls hl hP hD hS hc)⟩
theorem j_iload_n (pc : Nat) (q : Nat)  {k : Fin 4} {i : Nat} {x : Int32} (d : decode cc pc = .ok (.iload_n k, 1)) (hi : (k : Nat) = i) (hq : lv[q]? = some (i, .int x)) (kk : JJ X ad γ RQ fc fr lo cc nL own Ts ret (code) S (pc + 1) lv (.int x :: st)) : JJ X ad γ RQ fc fr lo cc nL own Ts ret (code) S pc lv (st) := by
  obtain ⟨p, l, e, s, m, args, below, meth, c, dC, dI, cy, A, c0, bc, bs⟩ := X
  intro o ho
  obtain ⟨h1, h2⟩ := kk o ho
  exact ⟨h1, fun hX H locs ls hl hP hD hS hc => by
        have h2 := h2 hX
        obtain ⟨hx, hb, hml, hown, hts, hK, hA, hlocks, hN, hR, hrt⟩ := hX
        exact lv_iload_n hx hb d hi (lv_at hl q hq) (h2 H locs ls hl hP hD hS hc)⟩
theorem j_iload (pc : Nat) (q : Nat)  {i : Nat} {x : Int32} (d : decode cc pc = .ok (.iload i, 2)) (hq : lv[q]? = some (i, .int x)) (kk : JJ X ad γ RQ fc fr lo cc nL own Ts ret (code) S (pc + 2) lv (.int x :: st)) : JJ X ad γ RQ fc fr lo cc nL own Ts ret (code) S pc lv (st) := by
  obtain ⟨p, l, e, s, m, args, below, meth, c, dC, dI, cy, A, c0, bc, bs⟩ := X
  intro o ho
  obtain ⟨h1, h2⟩ := kk o ho
  exact ⟨h1, fun hX H locs ls hl hP hD hS hc => by
        have h2 := h2 hX
        obtain ⟨hx, hb, hml, hown, hts, hK, hA, hlocks, hN, hR, hrt⟩ := hX
        exact lv_iload hx hb d (lv_at hl q hq) (h2 H locs ls hl hP hD hS hc)⟩
theorem j_istore_n (pc : Nat)  {k : Fin 4} {i : Nat} {x : Int32} (d : decode cc pc = .ok (.istore_n k, 1)) (hi : (k : Nat) = i) (hn : i < nL) (hv : (i, Value.int x) :: lv.filter (fun q => !(q.1 == i) && !(q.1 + 1 == i && q.2.category == 2)) = lv2) (kk : JJ X ad γ RQ fc fr lo cc nL own Ts ret (code) S (pc + 1) lv2 (st)) : JJ X ad γ RQ fc fr lo cc nL own Ts ret (code) S pc lv (.int x :: st) := by
  obtain ⟨p, l, e, s, m, args, below, meth, c, dC, dI, cy, A, c0, bc, bs⟩ := X
  intro o ho
  obtain ⟨h1, h2⟩ := kk o ho
  exact ⟨h1, fun hX H locs ls hl hP hD hS hc => by
        have h2 := h2 hX
        obtain ⟨hx, hb, hml, hown, hts, hK, hA, hlocks, hN, hR, hrt⟩ := hX
        exact lv_istore_n hx hb d hi hl hn hv (fun ls2 hl2 => h2 H locs ls2 hl2 hP hD hS hc)⟩
theorem j_istore (pc : Nat)  {i : Nat} {x : Int32} (d : decode cc pc = .ok (.istore i, 2)) (hn : i < nL) (hv : (i, Value.int x) :: lv.filter (fun q => !(q.1 == i) && !(q.1 + 1 == i && q.2.category == 2)) = lv2) (kk : JJ X ad γ RQ fc fr lo cc nL own Ts ret (code) S (pc + 2) lv2 (st)) : JJ X ad γ RQ fc fr lo cc nL own Ts ret (code) S pc lv (.int x :: st) := by
  obtain ⟨p, l, e, s, m, args, below, meth, c, dC, dI, cy, A, c0, bc, bs⟩ := X
  intro o ho
  obtain ⟨h1, h2⟩ := kk o ho
  exact ⟨h1, fun hX H locs ls hl hP hD hS hc => by
        have h2 := h2 hX
        obtain ⟨hx, hb, hml, hown, hts, hK, hA, hlocks, hN, hR, hrt⟩ := hX
        exact lv_istore hx hb d hl hn hv (fun ls2 hl2 => h2 H locs ls2 hl2 hP hD hS hc)⟩
theorem j_lload_n (pc : Nat) (q : Nat)  {k : Fin 4} {i : Nat} {x : Int64} (d : decode cc pc = .ok (.lload_n k, 1)) (hi : (k : Nat) = i) (hq : lv[q]? = some (i, .long x)) (kk : JJ X ad γ RQ fc fr lo cc nL own Ts ret (code) S (pc + 1) lv (.long x :: st)) : JJ X ad γ RQ fc fr lo cc nL own Ts ret (code) S pc lv (st) := by
  obtain ⟨p, l, e, s, m, args, below, meth, c, dC, dI, cy, A, c0, bc, bs⟩ := X
  intro o ho
  obtain ⟨h1, h2⟩ := kk o ho
  exact ⟨h1, fun hX H locs ls hl hP hD hS hc => by
        have h2 := h2 hX
        obtain ⟨hx, hb, hml, hown, hts, hK, hA, hlocks, hN, hR, hrt⟩ := hX
        exact lv_lload_n hx hb d hi (lv_at hl q hq) (h2 H locs ls hl hP hD hS hc)⟩
theorem j_lload (pc : Nat) (q : Nat)  {i : Nat} {x : Int64} (d : decode cc pc = .ok (.lload i, 2)) (hq : lv[q]? = some (i, .long x)) (kk : JJ X ad γ RQ fc fr lo cc nL own Ts ret (code) S (pc + 2) lv (.long x :: st)) : JJ X ad γ RQ fc fr lo cc nL own Ts ret (code) S pc lv (st) := by
  obtain ⟨p, l, e, s, m, args, below, meth, c, dC, dI, cy, A, c0, bc, bs⟩ := X
  intro o ho
  obtain ⟨h1, h2⟩ := kk o ho
  exact ⟨h1, fun hX H locs ls hl hP hD hS hc => by
        have h2 := h2 hX
        obtain ⟨hx, hb, hml, hown, hts, hK, hA, hlocks, hN, hR, hrt⟩ := hX
        exact lv_lload hx hb d (lv_at hl q hq) (h2 H locs ls hl hP hD hS hc)⟩
theorem j_lstore_n (pc : Nat)  {k : Fin 4} {i : Nat} {x : Int64} (d : decode cc pc = .ok (.lstore_n k, 1)) (hi : (k : Nat) = i) (hn : i + 1 < nL) (hv : (i, Value.long x) :: lv.filter (fun q => !(q.1 == i) && (!(q.1 == i + 1) && !(q.1 + 1 == i && q.2.category == 2))) = lv2) (kk : JJ X ad γ RQ fc fr lo cc nL own Ts ret (code) S (pc + 1) lv2 (st)) : JJ X ad γ RQ fc fr lo cc nL own Ts ret (code) S pc lv (.long x :: st) := by
  obtain ⟨p, l, e, s, m, args, below, meth, c, dC, dI, cy, A, c0, bc, bs⟩ := X
  intro o ho
  obtain ⟨h1, h2⟩ := kk o ho
  exact ⟨h1, fun hX H locs ls hl hP hD hS hc => by
        have h2 := h2 hX
        obtain ⟨hx, hb, hml, hown, hts, hK, hA, hlocks, hN, hR, hrt⟩ := hX
        exact lv_lstore_n hx hb d hi hl hn hv (fun ls2 hl2 => h2 H locs ls2 hl2 hP hD hS hc)⟩
theorem j_lstore (pc : Nat)  {i : Nat} {x : Int64} (d : decode cc pc = .ok (.lstore i, 2)) (hn : i + 1 < nL) (hv : (i, Value.long x) :: lv.filter (fun q => !(q.1 == i) && (!(q.1 == i + 1) && !(q.1 + 1 == i && q.2.category == 2))) = lv2) (kk : JJ X ad γ RQ fc fr lo cc nL own Ts ret (code) S (pc + 2) lv2 (st)) : JJ X ad γ RQ fc fr lo cc nL own Ts ret (code) S pc lv (.long x :: st) := by
  obtain ⟨p, l, e, s, m, args, below, meth, c, dC, dI, cy, A, c0, bc, bs⟩ := X
  intro o ho
  obtain ⟨h1, h2⟩ := kk o ho
  exact ⟨h1, fun hX H locs ls hl hP hD hS hc => by
        have h2 := h2 hX
        obtain ⟨hx, hb, hml, hown, hts, hK, hA, hlocks, hN, hR, hrt⟩ := hX
        exact lv_lstore hx hb d hl hn hv (fun ls2 hl2 => h2 H locs ls2 hl2 hP hD hS hc)⟩
theorem j_aload_n (pc : Nat) (q : Nat)  {k : Fin 4} {i : Nat} {a : Nat} (d : decode cc pc = .ok (.aload_n k, 1)) (hi : (k : Nat) = i) (hq : lv[q]? = some (i, .ref a)) (kk : JJ X ad γ RQ fc fr lo cc nL own Ts ret (code) S (pc + 1) lv (.ref a :: st)) : JJ X ad γ RQ fc fr lo cc nL own Ts ret (code) S pc lv (st) := by
  obtain ⟨p, l, e, s, m, args, below, meth, c, dC, dI, cy, A, c0, bc, bs⟩ := X
  intro o ho
  obtain ⟨h1, h2⟩ := kk o ho
  exact ⟨h1, fun hX H locs ls hl hP hD hS hc => by
        have h2 := h2 hX
        obtain ⟨hx, hb, hml, hown, hts, hK, hA, hlocks, hN, hR, hrt⟩ := hX
        exact lv_aload_n hx hb d hi (lv_at hl q hq) (h2 H locs ls hl hP hD hS hc)⟩
theorem j_aload (pc : Nat) (q : Nat)  {i : Nat} {a : Nat} (d : decode cc pc = .ok (.aload i, 2)) (hq : lv[q]? = some (i, .ref a)) (kk : JJ X ad γ RQ fc fr lo cc nL own Ts ret (code) S (pc + 2) lv (.ref a :: st)) : JJ X ad γ RQ fc fr lo cc nL own Ts ret (code) S pc lv (st) := by
  obtain ⟨p, l, e, s, m, args, below, meth, c, dC, dI, cy, A, c0, bc, bs⟩ := X
  intro o ho
  obtain ⟨h1, h2⟩ := kk o ho
  exact ⟨h1, fun hX H locs ls hl hP hD hS hc => by
        have h2 := h2 hX
        obtain ⟨hx, hb, hml, hown, hts, hK, hA, hlocks, hN, hR, hrt⟩ := hX
        exact lv_aload hx hb d (lv_at hl q hq) (h2 H locs ls hl hP hD hS hc)⟩
theorem j_astore_n (pc : Nat)  {k : Fin 4} {i : Nat} {a : Nat} (d : decode cc pc = .ok (.astore_n k, 1)) (hi : (k : Nat) = i) (hn : i < nL) (hv : (i, Value.ref a) :: lv.filter (fun q => !(q.1 == i) && !(q.1 + 1 == i && q.2.category == 2)) = lv2) (kk : JJ X ad γ RQ fc fr lo cc nL own Ts ret (code) S (pc + 1) lv2 (st)) : JJ X ad γ RQ fc fr lo cc nL own Ts ret (code) S pc lv (.ref a :: st) := by
  obtain ⟨p, l, e, s, m, args, below, meth, c, dC, dI, cy, A, c0, bc, bs⟩ := X
  intro o ho
  obtain ⟨h1, h2⟩ := kk o ho
  exact ⟨h1, fun hX H locs ls hl hP hD hS hc => by
        have h2 := h2 hX
        obtain ⟨hx, hb, hml, hown, hts, hK, hA, hlocks, hN, hR, hrt⟩ := hX
        exact lv_astore_n hx hb d hi hl hn hv (fun ls2 hl2 => h2 H locs ls2 hl2 hP hD hS hc)⟩
theorem j_astore (pc : Nat)  {i : Nat} {a : Nat} (d : decode cc pc = .ok (.astore i, 2)) (hn : i < nL) (hv : (i, Value.ref a) :: lv.filter (fun q => !(q.1 == i) && !(q.1 + 1 == i && q.2.category == 2)) = lv2) (kk : JJ X ad γ RQ fc fr lo cc nL own Ts ret (code) S (pc + 2) lv2 (st)) : JJ X ad γ RQ fc fr lo cc nL own Ts ret (code) S pc lv (.ref a :: st) := by
  obtain ⟨p, l, e, s, m, args, below, meth, c, dC, dI, cy, A, c0, bc, bs⟩ := X
  intro o ho
  obtain ⟨h1, h2⟩ := kk o ho
  exact ⟨h1, fun hX H locs ls hl hP hD hS hc => by
        have h2 := h2 hX
        obtain ⟨hx, hb, hml, hown, hts, hK, hA, hlocks, hN, hR, hrt⟩ := hX
        exact lv_astore hx hb d hl hn hv (fun ls2 hl2 => h2 H locs ls2 hl2 hP hD hS hc)⟩
theorem j_iinc (pc : Nat) (q : Nat)  {i : Nat} {n : Int} {x v : Int32} (d : decode cc pc = .ok (.iinc i n, 3)) (hq : lv[q]? = some (i, .int x)) (hv : x + Int32.ofInt n = v) (hn : i < nL) (hl2 : (i, Value.int v) :: lv.filter (fun q => !(q.1 == i) && !(q.1 + 1 == i && q.2.category == 2)) = lv2) (kk : JJ X ad γ RQ fc fr lo cc nL own Ts ret (code) S (pc + 3) lv2 (st)) : JJ X ad γ RQ fc fr lo cc nL own Ts ret (code) S pc lv (st) := by
  obtain ⟨p, l, e, s, m, args, below, meth, c, dC, dI, cy, A, c0, bc, bs⟩ := X
  intro o ho
  obtain ⟨h1, h2⟩ := kk o ho
  exact ⟨h1, fun hX H locs ls hl hP hD hS hc => by
        have h2 := h2 hX
        obtain ⟨hx, hb, hml, hown, hts, hK, hA, hlocks, hN, hR, hrt⟩ := hX
        exact lv_iinc hx hb d hl hq hv hn hl2 (fun ls2 hl2 => h2 H locs ls2 hl2 hP hD hS hc)⟩
theorem j_sub (ks : List Nat) (h : lv_pick lv ks = lv2) {pc : Nat} (kk : JJ X ad γ RQ fc fr lo cc nL own Ts ret (code) S pc lv2 (st)) : JJ X ad γ RQ fc fr lo cc nL own Ts ret (code) S pc lv (st) := by
  obtain ⟨p, l, e, s, m, args, below, meth, c, dC, dI, cy, A, c0, bc, bs⟩ := X
  intro o ho
  obtain ⟨h1, h2⟩ := kk o ho
  exact ⟨h1, fun hX H locs ls hl hP hD hS hc => by
        have h2 := h2 hX
        obtain ⟨hx, hb, hml, hown, hts, hK, hA, hlocks, hN, hR, hrt⟩ := hX
        exact h2 H locs ls (lv_sub hl ks h) hP hD hS hc⟩
theorem j_icmp_eq (pc tgt : Nat)  {x y : Int32} {off : Int} {K1 K2 : Option ρ} [Decidable (x = y)] (d : decode cc pc = .ok (.if_icmp .eq off, 3)) (ht : (pc : Int) + off = (tgt : Int)) (k1 : x = y → JJ X ad γ RQ fc fr lo cc nL own Ts ret (K1) S tgt lv (st)) (k2 : ¬ x = y → JJ X ad γ RQ fc fr lo cc nL own Ts ret (K2) S (pc + 3) lv (st)) : JJ X ad γ RQ fc fr lo cc nL own Ts ret (if x = y then K1 else K2) S pc lv (.int y :: .int x :: st) := by
  obtain ⟨p, l, e, s, m, args, below, meth, c, dC, dI, cy, A, c0, bc, bs⟩ := X
  intro o ho
  by_cases hq : x = y
  · rw [if_pos hq] at ho
    obtain ⟨h1, h2⟩ := k1 hq o ho
    exact ⟨h1, fun hX H locs ls hl hP hD hS hc => by
        have h2 := h2 hX
        obtain ⟨hx, hb, hml, hown, hts, hK, hA, hlocks, hN, hR, hrt⟩ := hX
        exact lv_icmp_eq hx hb d ht (fun _ => (h2 H locs ls hl hP hD hS hc)) (fun h => absurd hq h)⟩
  · rw [if_neg hq] at ho
    obtain ⟨h1, h2⟩ := k2 hq o ho
    exact ⟨h1, fun hX H locs ls hl hP hD hS hc => by
        have h2 := h2 hX
        obtain ⟨hx, hb, hml, hown, hts, hK, hA, hlocks, hN, hR, hrt⟩ := hX
        exact lv_icmp_eq hx hb d ht (fun h => absurd h hq) (fun _ => (h2 H locs ls hl hP hD hS hc))⟩
theorem j_icmp_ne (pc tgt : Nat)  {x y : Int32} {off : Int} {K1 K2 : Option ρ} [Decidable (x = y)] (d : decode cc pc = .ok (.if_icmp .ne off, 3)) (ht : (pc : Int) + off = (tgt : Int)) (k1 : ¬ x = y → JJ X ad γ RQ fc fr lo cc nL own Ts ret (K1) S tgt lv (st)) (k2 : x = y → JJ X ad γ RQ fc fr lo cc nL own Ts ret (K2) S (pc + 3) lv (st)) : JJ X ad γ RQ fc fr lo cc nL own Ts ret (if x = y then K2 else K1) S pc lv (.int y :: .int x :: st) := by
  obtain ⟨p, l, e, s, m, args, below, meth, c, dC, dI, cy, A, c0, bc, bs⟩ := X
  intro o ho
  by_cases hq : x = y
  · rw [if_pos hq] at ho
    obtain ⟨h1, h2⟩ := k2 hq o ho
    exact ⟨h1, fun hX H locs ls hl hP hD hS hc => by
        have h2 := h2 hX
        obtain ⟨hx, hb, hml, hown, hts, hK, hA, hlocks, hN, hR, hrt⟩ := hX
        exact lv_icmp_ne hx hb d ht (fun h => absurd hq h) (fun _ => (h2 H locs ls hl hP hD hS hc))⟩
  · rw [if_neg hq] at ho
    obtain ⟨h1, h2⟩ := k1 hq o ho
    exact ⟨h1, fun hX H locs ls hl hP hD hS hc => by
        have h2 := h2 hX
        obtain ⟨hx, hb, hml, hown, hts, hK, hA, hlocks, hN, hR, hrt⟩ := hX
        exact lv_icmp_ne hx hb d ht (fun _ => (h2 H locs ls hl hP hD hS hc)) (fun h => absurd h hq)⟩
theorem j_icmp_lt (pc tgt : Nat)  {x y : Int32} {off : Int} {K1 K2 : Option ρ} [Decidable (x < y)] (d : decode cc pc = .ok (.if_icmp .lt off, 3)) (ht : (pc : Int) + off = (tgt : Int)) (k1 : x < y → JJ X ad γ RQ fc fr lo cc nL own Ts ret (K1) S tgt lv (st)) (k2 : ¬ x < y → JJ X ad γ RQ fc fr lo cc nL own Ts ret (K2) S (pc + 3) lv (st)) : JJ X ad γ RQ fc fr lo cc nL own Ts ret (if x < y then K1 else K2) S pc lv (.int y :: .int x :: st) := by
  obtain ⟨p, l, e, s, m, args, below, meth, c, dC, dI, cy, A, c0, bc, bs⟩ := X
  intro o ho
  by_cases hq : x < y
  · rw [if_pos hq] at ho
    obtain ⟨h1, h2⟩ := k1 hq o ho
    exact ⟨h1, fun hX H locs ls hl hP hD hS hc => by
        have h2 := h2 hX
        obtain ⟨hx, hb, hml, hown, hts, hK, hA, hlocks, hN, hR, hrt⟩ := hX
        exact lv_icmp_lt hx hb d ht (fun _ => (h2 H locs ls hl hP hD hS hc)) (fun h => absurd hq h)⟩
  · rw [if_neg hq] at ho
    obtain ⟨h1, h2⟩ := k2 hq o ho
    exact ⟨h1, fun hX H locs ls hl hP hD hS hc => by
        have h2 := h2 hX
        obtain ⟨hx, hb, hml, hown, hts, hK, hA, hlocks, hN, hR, hrt⟩ := hX
        exact lv_icmp_lt hx hb d ht (fun h => absurd h hq) (fun _ => (h2 H locs ls hl hP hD hS hc))⟩
theorem j_icmp_ge (pc tgt : Nat)  {x y : Int32} {off : Int} {K1 K2 : Option ρ} [Decidable (y ≤ x)] (d : decode cc pc = .ok (.if_icmp .ge off, 3)) (ht : (pc : Int) + off = (tgt : Int)) (k1 : y ≤ x → JJ X ad γ RQ fc fr lo cc nL own Ts ret (K1) S tgt lv (st)) (k2 : ¬ y ≤ x → JJ X ad γ RQ fc fr lo cc nL own Ts ret (K2) S (pc + 3) lv (st)) : JJ X ad γ RQ fc fr lo cc nL own Ts ret (if y ≤ x then K1 else K2) S pc lv (.int y :: .int x :: st) := by
  obtain ⟨p, l, e, s, m, args, below, meth, c, dC, dI, cy, A, c0, bc, bs⟩ := X
  intro o ho
  by_cases hq : y ≤ x
  · rw [if_pos hq] at ho
    obtain ⟨h1, h2⟩ := k1 hq o ho
    exact ⟨h1, fun hX H locs ls hl hP hD hS hc => by
        have h2 := h2 hX
        obtain ⟨hx, hb, hml, hown, hts, hK, hA, hlocks, hN, hR, hrt⟩ := hX
        exact lv_icmp_ge hx hb d ht (fun _ => (h2 H locs ls hl hP hD hS hc)) (fun h => absurd hq h)⟩
  · rw [if_neg hq] at ho
    obtain ⟨h1, h2⟩ := k2 hq o ho
    exact ⟨h1, fun hX H locs ls hl hP hD hS hc => by
        have h2 := h2 hX
        obtain ⟨hx, hb, hml, hown, hts, hK, hA, hlocks, hN, hR, hrt⟩ := hX
        exact lv_icmp_ge hx hb d ht (fun h => absurd h hq) (fun _ => (h2 H locs ls hl hP hD hS hc))⟩
theorem j_icmp_gt (pc tgt : Nat)  {x y : Int32} {off : Int} {K1 K2 : Option ρ} [Decidable (y < x)] (d : decode cc pc = .ok (.if_icmp .gt off, 3)) (ht : (pc : Int) + off = (tgt : Int)) (k1 : y < x → JJ X ad γ RQ fc fr lo cc nL own Ts ret (K1) S tgt lv (st)) (k2 : ¬ y < x → JJ X ad γ RQ fc fr lo cc nL own Ts ret (K2) S (pc + 3) lv (st)) : JJ X ad γ RQ fc fr lo cc nL own Ts ret (if y < x then K1 else K2) S pc lv (.int y :: .int x :: st) := by
  obtain ⟨p, l, e, s, m, args, below, meth, c, dC, dI, cy, A, c0, bc, bs⟩ := X
  intro o ho
  by_cases hq : y < x
  · rw [if_pos hq] at ho
    obtain ⟨h1, h2⟩ := k1 hq o ho
    exact ⟨h1, fun hX H locs ls hl hP hD hS hc => by
        have h2 := h2 hX
        obtain ⟨hx, hb, hml, hown, hts, hK, hA, hlocks, hN, hR, hrt⟩ := hX
        exact lv_icmp_gt hx hb d ht (fun _ => (h2 H locs ls hl hP hD hS hc)) (fun h => absurd hq h)⟩
  · rw [if_neg hq] at ho
    obtain ⟨h1, h2⟩ := k2 hq o ho
    exact ⟨h1, fun hX H locs ls hl hP hD hS hc => by
        have h2 := h2 hX
        obtain ⟨hx, hb, hml, hown, hts, hK, hA, hlocks, hN, hR, hrt⟩ := hX
        exact lv_icmp_gt hx hb d ht (fun h => absurd h hq) (fun _ => (h2 H locs ls hl hP hD hS hc))⟩
theorem j_icmp_le (pc tgt : Nat)  {x y : Int32} {off : Int} {K1 K2 : Option ρ} [Decidable (x ≤ y)] (d : decode cc pc = .ok (.if_icmp .le off, 3)) (ht : (pc : Int) + off = (tgt : Int)) (k1 : x ≤ y → JJ X ad γ RQ fc fr lo cc nL own Ts ret (K1) S tgt lv (st)) (k2 : ¬ x ≤ y → JJ X ad γ RQ fc fr lo cc nL own Ts ret (K2) S (pc + 3) lv (st)) : JJ X ad γ RQ fc fr lo cc nL own Ts ret (if x ≤ y then K1 else K2) S pc lv (.int y :: .int x :: st) := by
  obtain ⟨p, l, e, s, m, args, below, meth, c, dC, dI, cy, A, c0, bc, bs⟩ := X
  intro o ho
  by_cases hq : x ≤ y
  · rw [if_pos hq] at ho
    obtain ⟨h1, h2⟩ := k1 hq o ho
    exact ⟨h1, fun hX H locs ls hl hP hD hS hc => by
        have h2 := h2 hX
        obtain ⟨hx, hb, hml, hown, hts, hK, hA, hlocks, hN, hR, hrt⟩ := hX
        exact lv_icmp_le hx hb d ht (fun _ => (h2 H locs ls hl hP hD hS hc)) (fun h => absurd hq h)⟩
  · rw [if_neg hq] at ho
    obtain ⟨h1, h2⟩ := k2 hq o ho
    exact ⟨h1, fun hX H locs ls hl hP hD hS hc => by
        have h2 := h2 hX
        obtain ⟨hx, hb, hml, hown, hts, hK, hA, hlocks, hN, hR, hrt⟩ := hX
        exact lv_icmp_le hx hb d ht (fun h => absurd h hq) (fun _ => (h2 H locs ls hl hP hD hS hc))⟩
theorem j_if_eq (pc tgt : Nat)  {x : Int32} {off : Int} {K1 K2 : Option ρ} [Decidable (x = 0)] (d : decode cc pc = .ok (.ifCond .eq off, 3)) (ht : (pc : Int) + off = (tgt : Int)) (k1 : x = 0 → JJ X ad γ RQ fc fr lo cc nL own Ts ret (K1) S tgt lv (st)) (k2 : ¬ x = 0 → JJ X ad γ RQ fc fr lo cc nL own Ts ret (K2) S (pc + 3) lv (st)) : JJ X ad γ RQ fc fr lo cc nL own Ts ret (if x = 0 then K1 else K2) S pc lv (.int x :: st) := by
  obtain ⟨p, l, e, s, m, args, below, meth, c, dC, dI, cy, A, c0, bc, bs⟩ := X
  intro o ho
  by_cases hq : x = 0
  · rw [if_pos hq] at ho
    obtain ⟨h1, h2⟩ := k1 hq o ho
    exact ⟨h1, fun hX H locs ls hl hP hD hS hc => by
        have h2 := h2 hX
        obtain ⟨hx, hb, hml, hown, hts, hK, hA, hlocks, hN, hR, hrt⟩ := hX
        exact lv_if_eq hx hb d ht (fun _ => (h2 H locs ls hl hP hD hS hc)) (fun h => absurd hq h)⟩
  · rw [if_neg hq] at ho
    obtain ⟨h1, h2⟩ := k2 hq o ho
    exact ⟨h1, fun hX H locs ls hl hP hD hS hc => by
        have h2 := h2 hX
        obtain ⟨hx, hb, hml, hown, hts, hK, hA, hlocks, hN, hR, hrt⟩ := hX
        exact lv_if_eq hx hb d ht (fun h => absurd h hq) (fun _ => (h2 H locs ls hl hP hD hS hc))⟩
theorem j_if_ne (pc tgt : Nat)  {x : Int32} {off : Int} {K1 K2 : Option ρ} [Decidable (x = 0)] (d : decode cc pc = .ok (.ifCond .ne off, 3)) (ht : (pc : Int) + off = (tgt : Int)) (k1 : ¬ x = 0 → JJ X ad γ RQ fc fr lo cc nL own Ts ret (K1) S tgt lv (st)) (k2 : x = 0 → JJ X ad γ RQ fc fr lo cc nL own Ts ret (K2) S (pc + 3) lv (st)) : JJ X ad γ RQ fc fr lo cc nL own Ts ret (if x = 0 then K2 else K1) S pc lv (.int x :: st) := by
  obtain ⟨p, l, e, s, m, args, below, meth, c, dC, dI, cy, A, c0, bc, bs⟩ := X
  intro o ho
  by_cases hq : x = 0
  · rw [if_pos hq] at ho
    obtain ⟨h1, h2⟩ := k2 hq o ho
    exact ⟨h1, fun hX H locs ls hl hP hD hS hc => by
        have h2 := h2 hX
        obtain ⟨hx, hb, hml, hown, hts, hK, hA, hlocks, hN, hR, hrt⟩ := hX
        exact lv_if_ne hx hb d ht (fun h => absurd hq h) (fun _ => (h2 H locs ls hl hP hD hS hc))⟩
  · rw [if_neg hq] at ho
    obtain ⟨h1, h2⟩ := k1 hq o ho
    exact ⟨h1, fun hX H locs ls hl hP hD hS hc => by
        have h2 := h2 hX
        obtain ⟨hx, hb, hml, hown, hts, hK, hA, hlocks, hN, hR, hrt⟩ := hX
        exact lv_if_ne hx hb d ht (fun _ => (h2 H locs ls hl hP hD hS hc)) (fun h => absurd h hq)⟩
theorem j_if_lt (pc tgt : Nat)  {x : Int32} {off : Int} {K1 K2 : Option ρ} [Decidable (x < 0)] (d : decode cc pc = .ok (.ifCond .lt off, 3)) (ht : (pc : Int) + off = (tgt : Int)) (k1 : x < 0 → JJ X ad γ RQ fc fr lo cc nL own Ts ret (K1) S tgt lv (st)) (k2 : ¬ x < 0 → JJ X ad γ RQ fc fr lo cc nL own Ts ret (K2) S (pc + 3) lv (st)) : JJ X ad γ RQ fc fr lo cc nL own Ts ret (if x < 0 then K1 else K2) S pc lv (.int x :: st) := by
  obtain ⟨p, l, e, s, m, args, below, meth, c, dC, dI, cy, A, c0, bc, bs⟩ := X
  intro o ho
  by_cases hq : x < 0
  · rw [if_pos hq] at ho
    obtain ⟨h1, h2⟩ := k1 hq o ho
    exact ⟨h1, fun hX H locs ls hl hP hD hS hc => by
        have h2 := h2 hX
        obtain ⟨hx, hb, hml, hown, hts, hK, hA, hlocks, hN, hR, hrt⟩ := hX
        exact lv_if_lt hx hb d ht (fun _ => (h2 H locs ls hl hP hD hS hc)) (fun h => absurd hq h)⟩
  · rw [if_neg hq] at ho
    obtain ⟨h1, h2⟩ := k2 hq o ho
    exact ⟨h1, fun hX H locs ls hl hP hD hS hc => by
        have h2 := h2 hX
        obtain ⟨hx, hb, hml, hown, hts, hK, hA, hlocks, hN, hR, hrt⟩ := hX
        exact lv_if_lt hx hb d ht (fun h => absurd h hq) (fun _ => (h2 H locs ls hl hP hD hS hc))⟩
theorem j_if_ge (pc tgt : Nat)  {x : Int32} {off : Int} {K1 K2 : Option ρ} [Decidable (0 ≤ x)] (d : decode cc pc = .ok (.ifCond .ge off, 3)) (ht : (pc : Int) + off = (tgt : Int)) (k1 : 0 ≤ x → JJ X ad γ RQ fc fr lo cc nL own Ts ret (K1) S tgt lv (st)) (k2 : ¬ 0 ≤ x → JJ X ad γ RQ fc fr lo cc nL own Ts ret (K2) S (pc + 3) lv (st)) : JJ X ad γ RQ fc fr lo cc nL own Ts ret (if 0 ≤ x then K1 else K2) S pc lv (.int x :: st) := by
  obtain ⟨p, l, e, s, m, args, below, meth, c, dC, dI, cy, A, c0, bc, bs⟩ := X
  intro o ho
  by_cases hq : 0 ≤ x
  · rw [if_pos hq] at ho
    obtain ⟨h1, h2⟩ := k1 hq o ho
    exact ⟨h1, fun hX H locs ls hl hP hD hS hc => by
        have h2 := h2 hX
        obtain ⟨hx, hb, hml, hown, hts, hK, hA, hlocks, hN, hR, hrt⟩ := hX
        exact lv_if_ge hx hb d ht (fun _ => (h2 H locs ls hl hP hD hS hc)) (fun h => absurd hq h)⟩
  · rw [if_neg hq] at ho
    obtain ⟨h1, h2⟩ := k2 hq o ho
    exact ⟨h1, fun hX H locs ls hl hP hD hS hc => by
        have h2 := h2 hX
        obtain ⟨hx, hb, hml, hown, hts, hK, hA, hlocks, hN, hR, hrt⟩ := hX
        exact lv_if_ge hx hb d ht (fun h => absurd h hq) (fun _ => (h2 H locs ls hl hP hD hS hc))⟩
theorem j_if_gt (pc tgt : Nat)  {x : Int32} {off : Int} {K1 K2 : Option ρ} [Decidable (0 < x)] (d : decode cc pc = .ok (.ifCond .gt off, 3)) (ht : (pc : Int) + off = (tgt : Int)) (k1 : 0 < x → JJ X ad γ RQ fc fr lo cc nL own Ts ret (K1) S tgt lv (st)) (k2 : ¬ 0 < x → JJ X ad γ RQ fc fr lo cc nL own Ts ret (K2) S (pc + 3) lv (st)) : JJ X ad γ RQ fc fr lo cc nL own Ts ret (if 0 < x then K1 else K2) S pc lv (.int x :: st) := by
  obtain ⟨p, l, e, s, m, args, below, meth, c, dC, dI, cy, A, c0, bc, bs⟩ := X
  intro o ho
  by_cases hq : 0 < x
  · rw [if_pos hq] at ho
    obtain ⟨h1, h2⟩ := k1 hq o ho
    exact ⟨h1, fun hX H locs ls hl hP hD hS hc => by
        have h2 := h2 hX
        obtain ⟨hx, hb, hml, hown, hts, hK, hA, hlocks, hN, hR, hrt⟩ := hX
        exact lv_if_gt hx hb d ht (fun _ => (h2 H locs ls hl hP hD hS hc)) (fun h => absurd hq h)⟩
  · rw [if_neg hq] at ho
    obtain ⟨h1, h2⟩ := k2 hq o ho
    exact ⟨h1, fun hX H locs ls hl hP hD hS hc => by
        have h2 := h2 hX
        obtain ⟨hx, hb, hml, hown, hts, hK, hA, hlocks, hN, hR, hrt⟩ := hX
        exact lv_if_gt hx hb d ht (fun h => absurd h hq) (fun _ => (h2 H locs ls hl hP hD hS hc))⟩
theorem j_if_le (pc tgt : Nat)  {x : Int32} {off : Int} {K1 K2 : Option ρ} [Decidable (x ≤ 0)] (d : decode cc pc = .ok (.ifCond .le off, 3)) (ht : (pc : Int) + off = (tgt : Int)) (k1 : x ≤ 0 → JJ X ad γ RQ fc fr lo cc nL own Ts ret (K1) S tgt lv (st)) (k2 : ¬ x ≤ 0 → JJ X ad γ RQ fc fr lo cc nL own Ts ret (K2) S (pc + 3) lv (st)) : JJ X ad γ RQ fc fr lo cc nL own Ts ret (if x ≤ 0 then K1 else K2) S pc lv (.int x :: st) := by
  obtain ⟨p, l, e, s, m, args, below, meth, c, dC, dI, cy, A, c0, bc, bs⟩ := X
  intro o ho
  by_cases hq : x ≤ 0
  · rw [if_pos hq] at ho
    obtain ⟨h1, h2⟩ := k1 hq o ho
    exact ⟨h1, fun hX H locs ls hl hP hD hS hc => by
        have h2 := h2 hX
        obtain ⟨hx, hb, hml, hown, hts, hK, hA, hlocks, hN, hR, hrt⟩ := hX
        exact lv_if_le hx hb d ht (fun _ => (h2 H locs ls hl hP hD hS hc)) (fun h => absurd hq h)⟩
  · rw [if_neg hq] at ho
    obtain ⟨h1, h2⟩ := k2 hq o ho
    exact ⟨h1, fun hX H locs ls hl hP hD hS hc => by
        have h2 := h2 hX
        obtain ⟨hx, hb, hml, hown, hts, hK, hA, hlocks, hN, hR, hrt⟩ := hX
        exact lv_if_le hx hb d ht (fun h => absurd h hq) (fun _ => (h2 H locs ls hl hP hD hS hc))⟩
theorem j_goto (pc tgt : Nat)  {off : Int} (d : decode cc pc = .ok (.goto off, 3)) (ht : (pc : Int) + off = (tgt : Int)) (kk : JJ X ad γ RQ fc fr lo cc nL own Ts ret (code) S tgt lv (st)) : JJ X ad γ RQ fc fr lo cc nL own Ts ret (code) S pc lv (st) := by
  obtain ⟨p, l, e, s, m, args, below, meth, c, dC, dI, cy, A, c0, bc, bs⟩ := X
  intro o ho
  obtain ⟨h1, h2⟩ := kk o ho
  exact ⟨h1, fun hX H locs ls hl hP hD hS hc => by
        have h2 := h2 hX
        obtain ⟨hx, hb, hml, hown, hts, hK, hA, hlocks, hN, hR, hrt⟩ := hX
        exact lv_goto hx hb d ht (h2 H locs ls hl hP hD hS hc)⟩
theorem j_ldc (pc : Nat)  {index : Nat} {v : Int32} (d : decode cc pc = .ok (.ldc index, 2)) (hk : Cond.constant own index v ∈ Ts) (kk : JJ X ad γ RQ fc fr lo cc nL own Ts ret (code) S (pc + 2) lv (.int v :: st)) : JJ X ad γ RQ fc fr lo cc nL own Ts ret (code) S pc lv (st) := by
  obtain ⟨p, l, e, s, m, args, below, meth, c, dC, dI, cy, A, c0, bc, bs⟩ := X
  intro o ho
  obtain ⟨h1, h2⟩ := kk o ho
  exact ⟨h1, fun hX H locs ls hl hP hD hS hc => by
        have h2 := h2 hX
        obtain ⟨hx, hb, hml, hown, hts, hK, hA, hlocks, hN, hR, hrt⟩ := hX
        exact lv_ldc hx hb hown (hts _ hk) d (h2 H locs ls hl hP hD hS hc)⟩
theorem j_ldc2 (pc : Nat)  {index : Nat} {v : Int64} (d : decode cc pc = .ok (.ldc2_w index, 3)) (hk : Cond.constantLong own index v ∈ Ts) (kk : JJ X ad γ RQ fc fr lo cc nL own Ts ret (code) S (pc + 3) lv (.long v :: st)) : JJ X ad γ RQ fc fr lo cc nL own Ts ret (code) S pc lv (st) := by
  obtain ⟨p, l, e, s, m, args, below, meth, c, dC, dI, cy, A, c0, bc, bs⟩ := X
  intro o ho
  obtain ⟨h1, h2⟩ := kk o ho
  exact ⟨h1, fun hX H locs ls hl hP hD hS hc => by
        have h2 := h2 hX
        obtain ⟨hx, hb, hml, hown, hts, hK, hA, hlocks, hN, hR, hrt⟩ := hX
        exact lv_ldc2 hx hb hown (hts _ hk) d (h2 H locs ls hl hP hD hS hc)⟩
theorem j_gd {b : Bool} {pc : Nat} (kk : b = true → JJ X ad γ RQ fc fr lo cc nL own Ts ret (code) S pc lv (st)) : JJ X ad γ RQ fc fr lo cc nL own Ts ret (gd b code) S pc lv (st) := fun o ho => kk (gd_some ho).1 o (gd_some ho).2
theorem j_bndi {v : Int32} {K : Int32 → Option ρ} {pc : Nat} (kk : ∀ x : Int32, JJ X ad γ RQ fc fr lo cc nL own Ts ret (K x) S pc lv (.int x :: st)) : JJ X ad γ RQ fc fr lo cc nL own Ts ret (bnd v K) S pc lv (.int v :: st) := kk v
theorem j_bndl {v : Int64} {K : Int64 → Option ρ} {pc : Nat} (kk : ∀ x : Int64, JJ X ad γ RQ fc fr lo cc nL own Ts ret (K x) S pc lv (.long x :: st)) : JJ X ad γ RQ fc fr lo cc nL own Ts ret (bnd v K) S pc lv (.long v :: st) := kk v
theorem j_none {pc : Nat} : JJ X ad γ RQ fc fr lo cc nL own Ts ret (none) S pc lv (st) := fun _ h => by cases h
end JROWS
