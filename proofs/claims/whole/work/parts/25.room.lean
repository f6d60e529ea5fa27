/-! ROOM FOR MORE PARCELS: Arrays.copyOf, makeRoom -/
def CpOk (l : Launch) (dC : Nat → ClassId) (dI : Nat → Nat → Nat) (ty : FieldType) (y : MethodName) (ws : List Cond) (cA : ClassId) (x x2 : vp_A) (N2 : Nat) : Prop := ∀ (a sz : Nat), Met l y ws { frames := 1, cells := 1, slots := N2, locals := 30 } (va_Pc [.ref a, .int (nI N2)] (fun U => U.heap.size = sz ∧ va_P (dC, dI) clX [(a, .inl (cA, x))] U.heap ∧ va_K (dC, dI) clX [(cA, ty)] U ∧ va_D (fun _ => True) [(a, .inl (cA, x))])) (va_Qr (fun _ : Unit => True) (fun _ q t => va_P (dC, dI) clX [(a, .inl (cA, x)), (q, .inl (cA, x2))] t.heap ∧ va_K (dC, dI) clX [(cA, ty)] t ∧ va_D (va_A [(a, .inl (cA, x))] sz) [(a, .inl (cA, x)), (q, .inl (cA, x2))]) (va_A [(a, .inl (cA, x))] sz)) 1 N2 (va_A [(a, .inl (cA, x))] sz)
set_option maxRecDepth 100000 in
set_option maxHeartbeats 400000 in
/-- Arrays.copyOf of ints: a new row, twice as long, the old one in front -/
theorem cp_i (l : Launch) (dC : Nat → ClassId) (dI : Nat → Nat → Nat) (cA : ClassId) (f : Nat → Int32) {N N2 : Nat} (hN : N < N2) (hN2 : N2 ≤ 32768) : CpOk l dC dI .int yJ7_copyOf_59c91 wsJ7_copyOf_59c91 cA (N, .inl f) (N2, .inl (va_cpy f (fun _ => 0) 0 0 N)) N2 := by
  intro a sz
  refine Met.ofW (cc := cJ7_copyOf_59c91) (maxL := 3) (ret := some (.array .int)) (by decide) rfl ?_
  intro p e s m args below meth c s₁ B hml hv
  obtain ⟨rfl, hsz, hP, hK, hD0⟩ := hv
  have hx := B.exec
  have hb := B.bytes
  have hr := B.returns
  have hts := atoms_spec (ws := wsJ7_copyOf_59c91) B.pre
  have hown : s.vm.findClass RJ7 = some m.cls := findClass_of_methodNamed B.named
  have hlocks := B.notSynchronized
  subst hsz
  have hD := hD0.self (sz := s.heap.size)
  generalize hAe : va_A [(a, .inl (cA, (N, .inl f)))] s.heap.size = A at hD ⊢
  have hA : ∀ q : Nat, s.heap.size ≤ q → A q := fun q h => by rw [← hAe]; exact Or.inr h
  have hS : va_S A s.heap s.heap [] := va_S.rf
  have hl := lv_entry ([.ref a, .int (nI N2)]) (n := 3) (Nat.le_of_ble_eq_true rfl)
  rw [lg_entry_eq]
  generalize (lg_sl ([.ref a, .int (nI N2)]) ++ List.replicate (3 - (lg_sl ([.ref a, .int (nI N2)])).length) Slot.unset).toArray = ls at hl ⊢
  have hl : lv_has ls 3 [(0, .ref a), (1, .int (nI N2))] := hl
  refine lv_iload_n hx hb dJ7_copyOf_59c91_0 rfl (lv_at hl 1 rfl) ?_
  refine lv_aload_n hx hb dJ7_copyOf_59c91_1 rfl (lv_at hl 0 rfl) ?_
  refine va_alen (v := nI N) hx hb hK hP 0 0 rfl rfl rfl dJ7_copyOf_59c91_2 ?_
  refine lv_icmp_ne (tgt := 14) hx hb dJ7_copyOf_59c91_3 (by decide) (fun c_1 => ?_) (fun c_1 => absurd ((nI_eq (by omega) (by omega)).mp c_1) (by omega))
  have hneg : ¬ nI N2 < 0 := nI_pos (by omega)
  have hcl2 : (nI N2).toNatClampNeg = N2 := nI_clamp (by omega)
  have hbyt : N2 * componentBytes .int ≤ 536870912 := Nat.le_trans (Nat.mul_le_mul_right (componentBytes .int) hN2) (Nat.le_of_ble_eq_true rfl)
  have hslo : 0 + N2 ≤ N2 := by omega
  refine lv_iload_n hx hb dJ7_copyOf_59c91_14 rfl (lv_at hl 1 rfl) ?_
  refine va_newa (atype := .int) (ty := .int) (N' := N2) (a0 := (N2, .inl (fun _ => 0))) hx hb (hts (.arrayClass .int) (by decide +kernel)) rfl hK hP hD hS hA (fun _ => rfl) hneg hcl2 hbyt (Nat.le_of_ble_eq_true rfl) hslo dJ7_copyOf_59c91_15 (fun q cB H hK2 hP hD hS => ?_)
  have hcc : cB = cA := by
    have h1 : s.vm.findClass ("[" ++ (.int : FieldType).toString) = some cA := (hK2.2 0 (cA, .int) rfl).2
    have h2 : s.vm.findClass ("[" ++ (.int : FieldType).toString) = some cB := (hK2.2 1 (cB, .int) rfl).2
    rw [h1] at h2
    exact (Option.some.inj h2).symm
  subst hcc
  have hP : va_P (dC, dI) clX [(a, .inl (cB, (N, .inl f))), (q, .inl (cB, (N2, .inl (fun _ => 0))))] H := hP
  have hD : va_D A [(a, .inl (cB, (N, .inl f))), (q, .inl (cB, (N2, .inl (fun _ => 0))))] := hD
  refine lv_astore_n (lv' := [(2, .ref q), (0, .ref a), (1, .int (nI N2))]) hx hb dJ7_copyOf_59c91_17 rfl hl (by decide) rfl (fun ls hl => ?_)
  refine lv_aload_n hx hb dJ7_copyOf_59c91_18 rfl (lv_at hl 1 rfl) ?_
  refine lv_iconst (v := 0) hx hb dJ7_copyOf_59c91_19 (by decide) ?_
  refine lv_aload_n hx hb dJ7_copyOf_59c91_20 rfl (lv_at hl 0 rfl) ?_
  refine lv_iconst (v := 0) hx hb dJ7_copyOf_59c91_21 (by decide) ?_
  refine lv_aload_n hx hb dJ7_copyOf_59c91_22 rfl (lv_at hl 1 rfl) ?_
  refine va_alen (v := nI N) hx hb hK hP 0 0 rfl rfl rfl dJ7_copyOf_59c91_23 ?_
  refine lv_iload_n hx hb dJ7_copyOf_59c91_24 rfl (lv_at hl 2 rfl) ?_
  refine va_mmin hx hb (hml.trans hl.1.symm) hown (hts (.methodLink RJ7 304 Lib.Math.min.name) (by decide +kernel)) (hts (.static Lib.Math.min.name) (by decide +kernel)) (hts (.initialized "java/lang/Math") (by decide +kernel)) (hts (.code Lib.Math.min.name Lib.Math.min.code 2 (some .int)) (by decide +kernel)) (Nat.le_of_ble_eq_true rfl) (Nat.le_of_ble_eq_true rfl) (Nat.le_of_ble_eq_true rfl) hslo dJ7_copyOf_59c91_25 ?_
  have hmin : (if nI N2 < nI N then nI N2 else nI N) = nI N := if_neg (nI_nlt (by omega) (by omega))
  rw [hmin]
  have hcl : (nI N).toNatClampNeg = N := nI_clamp (by omega)
  have z0 : (0 : Int32).toNatClampNeg = 0 := by decide
  refine va_copyi hx hb (hml.trans hl.1.symm) hown (hts (.methodLink RJ7 150 arraycopyName) (by decide +kernel)) (hts (.native arraycopyName) (by decide +kernel)) (hts (.static arraycopyName) (by decide +kernel)) (hts (.initialized "java/lang/System") (by decide +kernel)) hK hP hD hS 0 1 0 0 (ty := .int) rfl rfl rfl rfl rfl (by decide) (by decide) (nI_pos (by omega)) (by rw [hcl, z0]; omega) (by rw [hcl, z0]; omega) (fun i _ => rfl) (Nat.le_of_ble_eq_true rfl) (Nat.le_of_ble_eq_true rfl) dJ7_copyOf_59c91_28 (fun H locs hP hD hS => ?_)
  rw [hcl] at hP hD
  have hP : va_P (dC, dI) clX [(a, .inl (cB, (N, .inl f))), (q, .inl (cB, (N2, .inl (va_cpy f (fun _ => 0) 0 0 N))))] H := hP
  have hD : va_D A [(a, .inl (cB, (N, .inl f))), (q, .inl (cB, (N2, .inl (va_cpy f (fun _ => 0) 0 0 N))))] := hD
  refine lv_aload_n hx hb dJ7_copyOf_59c91_31 rfl (lv_at hl 0 rfl) ?_
  refine W.cs (cells' := 1) (slots' := N2) (by omega) (by omega) ?_
  exact W.aret hx hb hr (Or.inr ⟨_, rfl⟩) (Or.inr ⟨_, rfl⟩) (fun t ht hW => ⟨⟨(), q, rfl, trivial, by rw [ht]; exact hP, va_K.moved hW.alike hK, hD⟩, hS.F ht⟩) hS.2.2 dJ7_copyOf_59c91_32
set_option maxRecDepth 100000 in
set_option maxHeartbeats 400000 in
/-- Arrays.copyOf of longs: a new row, twice as long, the old one in front -/
theorem cp_l (l : Launch) (dC : Nat → ClassId) (dI : Nat → Nat → Nat) (cA : ClassId) (f : Nat → Int64) {N N2 : Nat} (hN : N < N2) (hN2 : N2 ≤ 32768) : CpOk l dC dI .long yJ7_copyOf_c38d5 wsJ7_copyOf_c38d5 cA (N, .inr (.inl f)) (N2, .inr (.inl (va_cpy f (fun _ => 0) 0 0 N))) N2 := by
  intro a sz
  refine Met.ofW (cc := cJ7_copyOf_c38d5) (maxL := 3) (ret := some (.array .long)) (by decide) rfl ?_
  intro p e s m args below meth c s₁ B hml hv
  obtain ⟨rfl, hsz, hP, hK, hD0⟩ := hv
  have hx := B.exec
  have hb := B.bytes
  have hr := B.returns
  have hts := atoms_spec (ws := wsJ7_copyOf_c38d5) B.pre
  have hown : s.vm.findClass RJ7 = some m.cls := findClass_of_methodNamed B.named
  have hlocks := B.notSynchronized
  subst hsz
  have hD := hD0.self (sz := s.heap.size)
  generalize hAe : va_A [(a, .inl (cA, (N, .inr (.inl f))))] s.heap.size = A at hD ⊢
  have hA : ∀ q : Nat, s.heap.size ≤ q → A q := fun q h => by rw [← hAe]; exact Or.inr h
  have hS : va_S A s.heap s.heap [] := va_S.rf
  have hl := lv_entry ([.ref a, .int (nI N2)]) (n := 3) (Nat.le_of_ble_eq_true rfl)
  rw [lg_entry_eq]
  generalize (lg_sl ([.ref a, .int (nI N2)]) ++ List.replicate (3 - (lg_sl ([.ref a, .int (nI N2)])).length) Slot.unset).toArray = ls at hl ⊢
  have hl : lv_has ls 3 [(0, .ref a), (1, .int (nI N2))] := hl
  refine lv_iload_n hx hb dJ7_copyOf_c38d5_0 rfl (lv_at hl 1 rfl) ?_
  refine lv_aload_n hx hb dJ7_copyOf_c38d5_1 rfl (lv_at hl 0 rfl) ?_
  refine va_alen (v := nI N) hx hb hK hP 0 0 rfl rfl rfl dJ7_copyOf_c38d5_2 ?_
  refine lv_icmp_ne (tgt := 14) hx hb dJ7_copyOf_c38d5_3 (by decide) (fun c_1 => ?_) (fun c_1 => absurd ((nI_eq (by omega) (by omega)).mp c_1) (by omega))
  have hneg : ¬ nI N2 < 0 := nI_pos (by omega)
  have hcl2 : (nI N2).toNatClampNeg = N2 := nI_clamp (by omega)
  have hbyt : N2 * componentBytes .long ≤ 536870912 := Nat.le_trans (Nat.mul_le_mul_right (componentBytes .long) hN2) (Nat.le_of_ble_eq_true rfl)
  have hslo : 0 + N2 ≤ N2 := by omega
  refine lv_iload_n hx hb dJ7_copyOf_c38d5_14 rfl (lv_at hl 1 rfl) ?_
  refine va_newa (atype := .long) (ty := .long) (N' := N2) (a0 := (N2, .inr (.inl (fun _ => 0)))) hx hb (hts (.arrayClass .long) (by decide +kernel)) rfl hK hP hD hS hA (fun _ => rfl) hneg hcl2 hbyt (Nat.le_of_ble_eq_true rfl) hslo dJ7_copyOf_c38d5_15 (fun q cB H hK2 hP hD hS => ?_)
  have hcc : cB = cA := by
    have h1 : s.vm.findClass ("[" ++ (.long : FieldType).toString) = some cA := (hK2.2 0 (cA, .long) rfl).2
    have h2 : s.vm.findClass ("[" ++ (.long : FieldType).toString) = some cB := (hK2.2 1 (cB, .long) rfl).2
    rw [h1] at h2
    exact (Option.some.inj h2).symm
  subst hcc
  have hP : va_P (dC, dI) clX [(a, .inl (cB, (N, .inr (.inl f)))), (q, .inl (cB, (N2, .inr (.inl (fun _ => 0)))))] H := hP
  have hD : va_D A [(a, .inl (cB, (N, .inr (.inl f)))), (q, .inl (cB, (N2, .inr (.inl (fun _ => 0)))))] := hD
  refine lv_astore_n (lv' := [(2, .ref q), (0, .ref a), (1, .int (nI N2))]) hx hb dJ7_copyOf_c38d5_17 rfl hl (by decide) rfl (fun ls hl => ?_)
  refine lv_aload_n hx hb dJ7_copyOf_c38d5_18 rfl (lv_at hl 1 rfl) ?_
  refine lv_iconst (v := 0) hx hb dJ7_copyOf_c38d5_19 (by decide) ?_
  refine lv_aload_n hx hb dJ7_copyOf_c38d5_20 rfl (lv_at hl 0 rfl) ?_
  refine lv_iconst (v := 0) hx hb dJ7_copyOf_c38d5_21 (by decide) ?_
  refine lv_aload_n hx hb dJ7_copyOf_c38d5_22 rfl (lv_at hl 1 rfl) ?_
  refine va_alen (v := nI N) hx hb hK hP 0 0 rfl rfl rfl dJ7_copyOf_c38d5_23 ?_
  refine lv_iload_n hx hb dJ7_copyOf_c38d5_24 rfl (lv_at hl 2 rfl) ?_
  refine va_mmin hx hb (hml.trans hl.1.symm) hown (hts (.methodLink RJ7 304 Lib.Math.min.name) (by decide +kernel)) (hts (.static Lib.Math.min.name) (by decide +kernel)) (hts (.initialized "java/lang/Math") (by decide +kernel)) (hts (.code Lib.Math.min.name Lib.Math.min.code 2 (some .int)) (by decide +kernel)) (Nat.le_of_ble_eq_true rfl) (Nat.le_of_ble_eq_true rfl) (Nat.le_of_ble_eq_true rfl) hslo dJ7_copyOf_c38d5_25 ?_
  have hmin : (if nI N2 < nI N then nI N2 else nI N) = nI N := if_neg (nI_nlt (by omega) (by omega))
  rw [hmin]
  have hcl : (nI N).toNatClampNeg = N := nI_clamp (by omega)
  have z0 : (0 : Int32).toNatClampNeg = 0 := by decide
  refine va_copyl hx hb (hml.trans hl.1.symm) hown (hts (.methodLink RJ7 150 arraycopyName) (by decide +kernel)) (hts (.native arraycopyName) (by decide +kernel)) (hts (.static arraycopyName) (by decide +kernel)) (hts (.initialized "java/lang/System") (by decide +kernel)) hK hP hD hS 0 1 0 0 (ty := .long) rfl rfl rfl rfl rfl (by decide) (by decide) (nI_pos (by omega)) (by rw [hcl, z0]; omega) (by rw [hcl, z0]; omega) (fun i _ => rfl) (Nat.le_of_ble_eq_true rfl) (Nat.le_of_ble_eq_true rfl) dJ7_copyOf_c38d5_28 (fun H locs hP hD hS => ?_)
  rw [hcl] at hP hD
  have hP : va_P (dC, dI) clX [(a, .inl (cB, (N, .inr (.inl f)))), (q, .inl (cB, (N2, .inr (.inl (va_cpy f (fun _ => 0) 0 0 N)))))] H := hP
  have hD : va_D A [(a, .inl (cB, (N, .inr (.inl f)))), (q, .inl (cB, (N2, .inr (.inl (va_cpy f (fun _ => 0) 0 0 N)))))] := hD
  refine lv_aload_n hx hb dJ7_copyOf_c38d5_31 rfl (lv_at hl 0 rfl) ?_
  refine W.cs (cells' := 1) (slots' := N2) (by omega) (by omega) ?_
  exact W.aret hx hb hr (Or.inr ⟨_, rfl⟩) (Or.inr ⟨_, rfl⟩) (fun t ht hW => ⟨⟨(), q, rfl, trivial, by rw [ht]; exact hP, va_K.moved hW.alike hK, hD⟩, hS.F ht⟩) hS.2.2 dJ7_copyOf_c38d5_32
theorem eJ7_cp_i : yJ7_copyOf_59c91.cls ≠ "java/lang/invoke/MethodHandle" ∧ yJ7_copyOf_59c91.cls ≠ "java/lang/invoke/VarHandle" ∧ (parseMethodDescriptor yJ7_copyOf_59c91.desc).map (fun d => d.parameters.length) = some 2 := by decide +kernel
theorem eJ7_cp_l : yJ7_copyOf_c38d5.cls ≠ "java/lang/invoke/MethodHandle" ∧ yJ7_copyOf_c38d5.cls ≠ "java/lang/invoke/VarHandle" ∧ (parseMethodDescriptor yJ7_copyOf_c38d5.desc).map (fun d => d.parameters.length) = some 2 := by decide +kernel
theorem nX1_makeRoom_X1 : ∀ w ∈ u_ws RX1 TX1 8, w ∈ wsX1_makeRoom := by decide +kernel
theorem wX1_makeRoom_f65 : Cond.fieldLink RX1 65 "TwoTongues$Estate" "parcels" "I" ∈ wsX1_makeRoom := by decide +kernel
theorem wX1_makeRoom_f19 : Cond.fieldLink RX1 19 "TwoTongues$Estate" "next" "[I" ∈ wsX1_makeRoom := by decide +kernel
theorem wX1_makeRoom_f22 : Cond.fieldLink RX1 22 "TwoTongues$Estate" "value" "[J" ∈ wsX1_makeRoom := by decide +kernel
theorem wX1_makeRoom_f25 : Cond.fieldLink RX1 25 "TwoTongues$Estate" "times" "[J" ∈ wsX1_makeRoom := by decide +kernel
/-- a new cell beside a world, of which nothing but one cell could have changed, and that one didn't -/
theorem grown {D : va_G} {cl : List vw_C} {A : Nat → Prop} {ws : va_W} {H H1 : Heap} {a q iJ : Nat} {e e2 : va_E} (hP : va_P D cl ws H) (hD : va_D A ws) (hJ : ws[iJ]? = some (a, e)) (hk : ∀ x : Nat, x < H.size → ¬ va_A [(a, e)] H.size x → H1[x]? = H[x]?) (hA : ∀ x, va_A [(a, e)] H.size x → A x) (hP1 : va_P D cl [(a, e), (q, e2)] H1) (hD1 : va_D (va_A [(a, e)] H.size) [(a, e), (q, e2)]) : va_P D cl (ws ++ [(q, e2)]) H1 ∧ va_D A (ws ++ [(q, e2)]) := by
  have hq : H.size ≤ q := by
    rcases hD1.2 1 (q, e2) rfl with ⟨k, z, hk⟩ | h
    · match k, hk with
      | 0, hk =>
        have e0 : (a, e) = (q, z) := Option.some.inj hk
        have : (0 : Nat) = 1 := hD1.1 0 1 (a, e) (q, e2) rfl rfl (by rw [(Prod.mk.inj e0).1])
        omega
      | k + 1, hk => simp at hk
    · exact h
  have one : va_D A [(q, e2)] := by
    refine ⟨fun i j x y hi hj _ => ?_, fun k x hx => ?_⟩
    · have := (List.getElem?_eq_some_iff.mp hi).1
      have := (List.getElem?_eq_some_iff.mp hj).1
      simp at *
      omega
    · match k, hx with
      | 0, hx =>
        have e0 : (q, e2) = x := Option.some.inj hx
        rw [← e0]
        exact hA q (Or.inr hq)
      | k + 1, hx => simp at hx
  refine ⟨va_P.app (fun k x hx => ?_) (fun k x hx => ?_), va_D.app hD one (fun i j x y hi hj hxy => ?_)⟩
  · by_cases ha : x.1 = a
    · have hi := hD.1 k iJ x (a, e) hx hJ ha
      subst hi
      have e0 : x = (a, e) := Option.some.inj (hx.symm.trans hJ)
      rw [e0]
      exact hP1 0 (a, e) rfl
    · have hl := (hP k x hx).lt
      refine (hP k x hx).kept (hk x.1 hl (fun z => ?_))
      rcases z with ⟨k2, z, hk2⟩ | z
      · match k2, hk2 with
        | 0, hk2 => exact ha (Prod.mk.inj (Option.some.inj hk2)).1.symm
        | k2 + 1, hk2 => simp at hk2
      · omega
  · match k, hx with
    | 0, hx =>
      have e0 : (q, e2) = x := Option.some.inj hx
      rw [← e0]
      exact hP1 1 (q, e2) rfl
    | k + 1, hx => simp at hx
  · have hl := (hP i x hi).lt
    match j, hj with
    | 0, hj =>
      have e0 : (q, e2) = y := Option.some.inj hj
      rw [← e0] at hxy
      simp only at hxy
      omega
    | j + 1, hj => simp at hj
def gw (ws : va_W) (iE hE : Nat) (fs : List Value) (k q : Nat) (cA : ClassId) (x2 : vp_A) : va_W := List.set (ws ++ ([(q, .inl (cA, x2))] : va_W)) iE (hE, .inr (1, fs.set k (.ref q)))
theorem gw_len {ws : va_W} {iE hE : Nat} {fs : List Value} {k q : Nat} {cA : ClassId} {x2 : vp_A} : (gw ws iE hE fs k q cA x2).length = ws.length + 1 := by simp [gw]
theorem gw_lt {ws : va_W} {iE hE : Nat} {fs : List Value} {k q : Nat} {cA : ClassId} {x2 : vp_A} {i : Nat} (h : i < ws.length) (h2 : i ≠ iE) : (gw ws iE hE fs k q cA x2)[i]? = ws[i]? := by
  unfold gw
  rw [List.getElem?_set_ne (Ne.symm h2), List.getElem?_append_left h]
theorem gw_E {ws : va_W} {iE hE : Nat} {fs : List Value} {k q : Nat} {cA : ClassId} {x2 : vp_A} (h : iE < ws.length) : (gw ws iE hE fs k q cA x2)[iE]? = some (hE, .inr (1, fs.set k (.ref q))) := by
  unfold gw
  rw [List.getElem?_set_self (by simp; omega)]
theorem gw_n {ws : va_W} {iE hE : Nat} {fs : List Value} {k q : Nat} {cA : ClassId} {x2 : vp_A} (h : iE < ws.length) : (gw ws iE hE fs k q cA x2)[ws.length]? = some (q, .inl (cA, x2)) := by
  unfold gw
  rw [List.getElem?_set_ne (by omega), List.getElem?_append_right (Nat.le_refl _)]
  simp
set_option maxRecDepth 100000 in
set_option maxHeartbeats 400000 in
theorem g_step {p : Program} {l : Launch} {e : Env} {R : Room} {s : State} {m : MethodId} {args : Array Value} {below : List Frame} {meth : Method} {c : Code} {dC : Nat → ClassId} {dI : Nat → Nat → Nat} {cy : Nat → ClassId} {A : Nat → Prop} {Q : State → Prop} {ls : Array Slot} {hE : Nat} (hx : p.tables.exec = Jvm.exec) (hb : c.code = cX1_makeRoom) (hml : c.maxLocals = 1) (hown : s.vm.findClass RX1 = some m.cls) (hts : ∀ w ∈ wsX1_makeRoom, w.before args s = true) (hK : va_K (dC, dI) clX (tyX cy) s) (hA : ∀ q, s.heap.size ≤ q → A q) (hl : lv_has ls 1 [(0, .ref hE)]) (hfr : R.frames = 3) (hlo : R.locals = 90)
    {y : MethodName} {wsC ws2 : List Cond} {bytes : ByteArray} {ret2 : Option FieldType} {ty : FieldType} {cA : ClassId} {x x2 : vp_A} {N N2 index fi k t0 : Nat} (hN : N2 = 2 * N) (hM : CpOk l dC dI ty y wsC cA x x2 N2) (hG : GoodIn wsX1_makeRoom (va_wsS RX1 index y wsC)) (hw : wsC = Cond.code y bytes 3 ret2 :: ws2) (hd : y.cls ≠ "java/lang/invoke/MethodHandle" ∧ y.cls ≠ "java/lang/invoke/VarHandle" ∧ (parseMethodDescriptor y.desc).map (fun d => d.parameters.length) = some 2) (ht0 : (tyX cy)[t0]? = some (cA, ty)) (hk7 : k < 8) (hlink : Cond.fieldLink RX1 fi "TwoTongues$Estate" (TX1 k).2.1 (TX1 k).2.2.1 ∈ wsX1_makeRoom) (hsame : "TwoTongues$Estate" = (TX1 k).1) (hfin : (TX1 k).2.2.2 = false) (hdd : parseFieldDescriptor (TX1 k).2.2.1 = some (.array ty))
    (pc : Nat) (d0 : decode cX1_makeRoom pc = .ok (.aload_n 0, 1)) (d1 : decode cX1_makeRoom (pc + 1) = .ok (.aload_n 0, 1)) (d2 : decode cX1_makeRoom (pc + 2) = .ok (.getfield fi, 3)) (d5 : decode cX1_makeRoom (pc + 5) = .ok (.iconst 2, 1)) (d6 : decode cX1_makeRoom (pc + 6) = .ok (.aload_n 0, 1)) (d7 : decode cX1_makeRoom (pc + 7) = .ok (.getfield 65, 3)) (d10 : decode cX1_makeRoom (pc + 10) = .ok (.imul, 1)) (d11 : decode cX1_makeRoom (pc + 11) = .ok (.invokestatic index, 3)) (d14 : decode cX1_makeRoom (pc + 14) = .ok (.putfield fi, 3))
    {H : Heap} {locs : List Loc} {cells slots : Nat} {ws : va_W} (hP : va_P (dC, dI) clX ws H) (hD : va_D A ws) (hS : va_S A s.heap H locs) (hfit : cells + 1 ≤ R.cells ∧ slots + N2 ≤ R.slots) {iE iJ a : Nat} {fs : List Value} (hiE : ws[iE]? = some (hE, .inr (1, fs))) (hfk : fs[k]? = some (.ref a)) (hf6 : fs[7]? = some (.int (nI N))) (hiJ : ws[iJ]? = some (a, .inl (cA, x)))
    (kk : ∀ (q : Nat) (H1 : Heap) (locs1 : List Loc), va_P (dC, dI) clX (gw ws iE hE fs k q cA x2) H1 → va_D A (gw ws iE hE fs k q cA x2) → va_S A s.heap H1 locs1 → W p l e R s m args below meth c H1 locs1 (cells + 1) (slots + N2) Q (F0 m (pc + 17) ls [])) :
    W p l e R s m args below meth c H locs cells slots Q (F0 m pc ls []) := by
  refine lv_aload_n hx hb d0 rfl (lv_at hl 0 rfl) ?_
  refine lv_aload_n hx hb d1 rfl (lv_at hl 0 rfl) ?_
  refine va_get (D := (dC, dI)) (ci := 1) (C := RX1) (T := TX1) (N := 8) hx hb hts nX1_makeRoom_X1 hown hK hP iE hiE rfl k hk7 (hts _ hlink) (fun z h9 => by rw [hsame]; exact h9) hfk d2 ?_
  refine lv_iconst (v := 2) hx hb d5 (by decide) ?_
  refine lv_aload_n hx hb d6 rfl (lv_at hl 0 rfl) ?_
  refine va_get (D := (dC, dI)) (ci := 1) (C := RX1) (T := TX1) (N := 8) hx hb hts nX1_makeRoom_X1 hown hK hP iE hiE rfl 7 (by decide) (hts _ wX1_makeRoom_f65) (fun z h9 => h9) hf6 d7 ?_
  refine lv_imul hx hb d10 ?_
  have e2 : (2 : Int32) * nI N = nI N2 := by rw [hN]; exact pk_mul 2 N
  rw [e2]
  have hPc : va_P (dC, dI) clX [(a, .inl (cA, x))] H := fun k' q' h' => by
    match k', h' with
    | 0, h' =>
      have e0 : (a, Sum.inl (cA, x)) = q' := Option.some.inj h'
      rw [← e0]; exact hP iJ _ hiJ
    | k' + 1, h' => simp at h'
  have hDc : va_D (fun _ => True) [((a, .inl (cA, x)) : Nat × va_E)] := ⟨fun i j x' y' hi hj _ => by
      have := (List.getElem?_eq_some_iff.mp hi).1
      have := (List.getElem?_eq_some_iff.mp hj).1
      simp at *
      omega, fun _ _ _ => trivial⟩
  have hKc : va_K (dC, dI) clX [(cA, ty)] s := ⟨hK.1, fun k' q' h' => by
    match k', h' with
    | 0, h' =>
      have e0 : (cA, ty) = q' := Option.some.inj h'
      rw [← e0]; exact hK.2 t0 _ ht0
    | k' + 1, h' => simp at h'⟩
  have hFc : ∀ z, va_A [((a, .inl (cA, x)) : Nat × va_E)] H.size z → A z := fun z hz => by
    rcases hz with ⟨k2, e', hk2⟩ | hz
    · match k2, hk2 with
      | 0, hk2 =>
        have e0 : a = z := (Prod.mk.inj (Option.some.inj hk2)).1
        rw [← e0]; exact hD.2 iJ _ hiJ
      | k2 + 1, hk2 => simp at hk2
    · exact hA z (Nat.le_trans hS.1 hz)
  refine va_callr (va_runS (As := [.ref a, .int (nI N2)]) (rest := [.ref hE]) ⟨hx, hb, hml, hown, hts⟩ (hM a H.size) (va_cwS 2 hts hG hw rfl rfl hd (by rw [hfr, hlo]; exact ⟨Nat.le_of_ble_eq_true rfl, Nat.le_of_ble_eq_true rfl⟩)) ⟨fun a' U g mk q => by obtain ⟨q0, q1, qP, qK, qD⟩ := q; exact ⟨q0, q1, qP, va_K.moved (u := U) (U := U.calling g mk a') (Vm.Alike.refl U.vm) qK, qD⟩, fun U hU hW => ⟨rfl, by rw [hU], by rw [hU]; exact hPc, va_K.moved hW.alike hKc, hDc⟩⟩ rfl rfl hl.1 rfl (lv_room (Nat.le_of_ble_eq_true rfl)) d11 hfit) hS (fun q _ h => hFc q h) hFc (fun u q t H1 locs ht hvm hw hB hz1 hk1 hS => ?_)
  obtain ⟨hP1, hK1, hD1⟩ := hB
  rw [ht] at hP1
  obtain ⟨hP2, hD2⟩ := grown hP hD hiJ hk1 hFc hP1 hD1
  have hil : iE < ws.length := (List.getElem?_eq_some_iff.mp hiE).1
  have hk7' : k < fs.length := (List.getElem?_eq_some_iff.mp hfk).1
  refine va_put (D := (dC, dI)) (ci := 1) (v := .ref q) (ty := .array ty) (C := RX1) (T := TX1) (N := 8) hx hb hts nX1_makeRoom_X1 tyX1 tyX1_ok nmX1 hown hK hP2 hD2 hS iE (by rw [List.getElem?_append_left hil]; exact hiE) rfl k hk7 (hts _ hlink) (fun z h9 => by rw [hsame]; exact h9) hfin hdd rfl rfl hk7' d14 (fun H2 locs2 hP hD hS => ?_)
  exact kk q H2 locs2 hP hD hS
theorem va_D_by {A : Nat → Prop} {ws ws' : va_W} (hD : va_D A ws) (g : Nat → Nat) (hg : ∀ (k : Nat) (q : Nat × va_E), ws'[k]? = some q → ws[g k]? = some q) (hi : ∀ i j, i < ws'.length → j < ws'.length → g i = g j → i = j) : va_D A ws' := ⟨fun i j x y h1 h2 hxy => hi i j (List.getElem?_eq_some_iff.mp h1).1 (List.getElem?_eq_some_iff.mp h2).1 (hD.1 (g i) (g j) x y (hg i x h1) (hg j y h2) hxy), fun k q hk => hD.2 (g k) q (hg k q hk)⟩
theorem gr_A (S : St) (c n i : Nat) : gA (grow S) c n i = if c = 82 ∧ n = 0 then (if i < gC S then gA S 82 0 i else 0) else gA S c n i := rfl
theorem gr_B (S : St) (c n i : Nat) : gB (grow S) c n i = if (c = 83 ∨ c = 84) ∧ n = 0 then (if i < gC S then gB S c 0 i else 0) else gB S c n i := rfl
theorem k3_no : ∀ c : Fin 12, c.val = 1 ∨ ∀ k : Fin 41, (kEnt c.val k.val).1 < 3 ∨ (kTab.getD c.val []).length ≤ k.val := by decide +kernel
theorem k_len : ∀ c : Fin 12, (kTab.getD c.val []).length ≤ 41 := by decide +kernel
theorem co_grow {cy : Nat → ClassId} {ad : Nat → Nat → Nat} {γ γ2 : Nat → Nat} {S : St} {c n : Nat} (hc : c < 82) (h1 : c ≠ 1) : co cy ad γ2 (grow S) c n = co cy ad γ S c n := by
  by_cases h12 : c < 12
  · rw [co_obj cy ad γ2 _ h12, co_obj cy ad γ _ h12]
    congr 2
    refine List.map_congr_left (fun k hk => ?_)
    have hk := List.mem_range.mp hk
    have hl := k_len ⟨c, h12⟩
    rcases k3_no ⟨c, h12⟩ with h | h
    · exact absurd h h1
    · have h3 := h ⟨k, by simp only at hl; omega⟩
      simp only at h3
      unfold fv
      rcases (show (kEnt c k).1 = 0 ∨ (kEnt c k).1 = 1 ∨ (kEnt c k).1 = 2 by omega) with z | z | z <;> rw [z] <;> rfl
  · have a1 : gA (grow S) c n = gA S c n := by funext i; rw [gr_A, if_neg (by omega)]
    have a2 : gB (grow S) c n = gB S c n := by funext i; rw [gr_B, if_neg (by omega)]
    have a3 : ln (grow S) c = ln S c := by
      unfold ln
      rw [if_neg (show ¬ kG ≤ c by unfold kG; omega), if_neg (show ¬ kG ≤ c by unfold kG; omega)]
    unfold co
    rw [if_neg h12, if_neg h12, a1, a2, a3]
theorem co_g81 {cy : Nat → ClassId} {ad : Nat → Nat → Nat} {γ2 : Nat → Nat} {S : St} : co cy ad γ2 (grow S) 82 0 = .inl (cy 0, (2 * gC S, .inl (va_cpy (gA S 82 0) (fun _ => 0) 0 0 (gC S)))) := by
  have e : gA (grow S) 82 0 = va_cpy (gA S 82 0) (fun _ => 0) 0 0 (gC S) := by
    funext i
    rw [gr_A, if_pos ⟨rfl, rfl⟩]
    unfold va_cpy
    by_cases h : i < gC S
    · rw [if_pos h, if_pos (by omega)]; congr 1; omega
    · rw [if_neg h, if_neg (by omega)]
  rw [← e]; rfl
theorem co_gJ {cy : Nat → ClassId} {ad : Nat → Nat → Nat} {γ2 : Nat → Nat} {S : St} {c : Nat} (hc : c = 83 ∨ c = 84) : co cy ad γ2 (grow S) c 0 = .inl (cy 3, (2 * gC S, .inr (.inl (va_cpy (gB S c 0) (fun _ => 0) 0 0 (gC S))))) := by
  have e : gB (grow S) c 0 = va_cpy (gB S c 0) (fun _ => 0) 0 0 (gC S) := by
    funext i
    rw [gr_B, if_pos ⟨hc, rfl⟩]
    unfold va_cpy
    by_cases h : i < gC S
    · rw [if_pos h, if_pos (by omega)]; congr 1; omega
    · rw [if_neg h, if_neg (by omega)]
  rw [← e]
  rcases hc with rfl | rfl <;> rfl
theorem prs_k {c n : Nat} (h : (c, n) ∈ prs) : c < 85 ∧ n < kCnt c := by
  simp only [prs, List.mem_flatMap, List.mem_map, List.mem_range] at h
  obtain ⟨c', h1, n', h2, h3⟩ := h
  cases h3
  exact ⟨h1, h2⟩
theorem prs_one {c n : Nat} (h : (c, n) ∈ prs) (hc : c = 1 ∨ c = 82 ∨ c = 83 ∨ c = 84) : n = 0 := by
  have h2 := (prs_k h).2
  rcases hc with rfl | rfl | rfl | rfl
  · exact Nat.lt_one_iff.mp h2
  · exact Nat.lt_one_iff.mp h2
  · exact Nat.lt_one_iff.mp h2
  · exact Nat.lt_one_iff.mp h2
theorem gw_n' {ws : va_W} {iE hE : Nat} {fs : List Value} {k q : Nat} {cA : ClassId} {x2 : vp_A} {L : Nat} (hL : L = ws.length) (h : iE < L) : (gw ws iE hE fs k q cA x2)[L]? = some (q, .inl (cA, x2)) := by
  subst hL; exact gw_n h
theorem ite_lt {α : Type} {a b : Int32} (x y : α) : (if a < b then x else y) = if b ≤ a then y else x := by
  by_cases h : a < b
  · rw [if_pos h, if_neg (Int32.not_le.mpr h)]
  · rw [if_neg h, if_pos (Int32.not_lt.mp h)]
theorem wl_len {cy : Nat → ClassId} {ad : Nat → Nat → Nat} {γ : Nat → Nat} {S : St} : (wl cy ad γ S).length = prs.length := by simp [wl]
def gIx (L k : Nat) : Nat := match prs[k]? with
  | some q => if 82 ≤ q.1 then L + (q.1 - 82) else k
  | none => k
theorem gIx_inj {L : Nat} (hL : L = prs.length) (i j : Nat) (hi : i < prs.length) (hj : j < prs.length) (h : gIx L i = gIx L j) : i = j := by
  have h1 : prs[i]? = some prs[i] := List.getElem?_eq_getElem hi
  have h2 : prs[j]? = some prs[j] := List.getElem?_eq_getElem hj
  unfold gIx at h
  rw [h1, h2] at h
  simp only at h
  have m1 := List.getElem_mem hi
  have m2 := List.getElem_mem hj
  by_cases c1 : 82 ≤ prs[i].1
  · rw [if_pos c1] at h
    by_cases c2 : 82 ≤ prs[j].1
    · rw [if_pos c2] at h
      have b1 := (prs_k (c := prs[i].1) (n := prs[i].2) m1).1
      have b2 := (prs_k (c := prs[j].1) (n := prs[j].2) m2).1
      have n1 := prs_one (c := prs[i].1) (n := prs[i].2) m1 (by omega)
      have n2 := prs_one (c := prs[j].1) (n := prs[j].2) m2 (by omega)
      have e : prs[i] = prs[j] := Prod.ext (by omega) (by omega)
      exact (List.getElem?_inj hi prs_nd).mp (by rw [h1, h2, e])
    · rw [if_neg c2] at h; omega
  · rw [if_neg c1] at h
    by_cases c2 : 82 ≤ prs[j].1
    · rw [if_pos c2] at h; omega
    · rw [if_neg c2] at h; exact h
def g3 (q1 q2 q3 : Nat) (j : Nat) : Nat := if j = 0 then q1 else if j = 1 then q2 else q3
set_option maxRecDepth 100000 in
set_option maxHeartbeats 400000 in
theorem t_grow {ad : Nat → Nat → Nat} (X : Ctx) (γ : Nat → Nat) (S : St) (h6 : gI S 1 0 7 = Int32.ofNat (gC S)) : JJ X ad γ (RQm X ad 3 90 outev) (fcm outev) 3 90 cX1_makeRoom 1 RX1 wsX1_makeRoom none (gd (decide (0 < gC S ∧ gC S < 16384)) (some (grow S))) S 22 [(0, .ref (ad 1 0))] [] := by
  obtain ⟨p, l, e, s, m, args, below, meth, c, dC, dI, cy, A, c0, bc, bs⟩ := X
  intro o ho
  obtain ⟨hg, ho⟩ := gd_some ho
  cases ho
  have hg := of_decide_eq_true hg
  have gc2 : gC (grow S) = 2 * gC S := rfl
  refine ⟨by show gC S ≤ gC (grow S); omega, fun hX H locs ls hl hP hD hS hcc => ?_⟩
  obtain ⟨hx, hb, hml, hown, hts, hK, hA, hlocks, hN, hR, hrt⟩ := hX
  obtain ⟨iE, hqE, hiE⟩ := wl_get cy ad γ S (prs_mem (c := 1) (n := 0) (by decide) (by decide))
  obtain ⟨i1, hq1, hi1⟩ := wl_get cy ad γ S (prs_mem (c := 82) (n := 0) (by decide) (by decide))
  obtain ⟨i2, hq2, hi2⟩ := wl_get cy ad γ S (prs_mem (c := 83) (n := 0) (by decide) (by decide))
  obtain ⟨i3, hq3, hi3⟩ := wl_get cy ad γ S (prs_mem (c := 84) (n := 0) (by decide) (by decide))
  have ne1 : i1 ≠ iE := fun z => by rw [z, hqE] at hq1; cases hq1
  have ne2 : i2 ≠ iE := fun z => by rw [z, hqE] at hq2; cases hq2
  have ne3 : i3 ≠ iE := fun z => by rw [z, hqE] at hq3; cases hq3
  have hiE' : (wl cy ad γ S)[iE]? = some (ad 1 0, .inr (1, [.ref (ad 6 0), .ref (ad 18 0), .long (gJ S 1 0 2), .ref (ad 81 0), .ref (γ 0), .ref (γ 1), .ref (γ 2), .int (gI S 1 0 7)])) := hiE
  rw [h6] at hiE'
  have hi1' : (wl cy ad γ S)[i1]? = some (γ 0, .inl (cy 0, (gC S, .inl (gA S 82 0)))) := hi1
  have hi2' : (wl cy ad γ S)[i2]? = some (γ 1, .inl (cy 3, (gC S, .inr (.inl (gB S 83 0))))) := hi2
  have hi3' : (wl cy ad γ S)[i3]? = some (γ 2, .inl (cy 3, (gC S, .inr (.inl (gB S 84 0))))) := hi3
  have lE : iE < (wl cy ad γ S).length := (List.getElem?_eq_some_iff.mp hiE').1
  have l1 : i1 < (wl cy ad γ S).length := (List.getElem?_eq_some_iff.mp hi1').1
  have l2 : i2 < (wl cy ad γ S).length := (List.getElem?_eq_some_iff.mp hi2').1
  have l3 : i3 < (wl cy ad γ S).length := (List.getElem?_eq_some_iff.mp hi3').1
  have hcS : c0 ≤ gC S := hcc
  have hlt : gC S < 2 * gC S := by omega
  have h32 : 2 * gC S ≤ 32768 := by omega
  refine g_step hx hb hml hown hts hK hA hl rfl rfl (N2 := 2 * gC S) (N := gC S) rfl (cp_i l dC dI (cy 0) (gA S 82 0) hlt h32) gX1_makeRoom_J7_copyOf_59c91 rfl eJ7_cp_i (t0 := 0) (k := 4) rfl (by decide) wX1_makeRoom_f19 rfl rfl (by decide +kernel) 22 dX1_makeRoom_22 dX1_makeRoom_23 dX1_makeRoom_24 dX1_makeRoom_27 dX1_makeRoom_28 dX1_makeRoom_29 dX1_makeRoom_32 dX1_makeRoom_33 dX1_makeRoom_36 hP hD hS (by constructor <;> (show _ ≤ _ + 6 * (gC (grow S) - c0); omega)) hiE' rfl rfl hi1' (fun q1 H locs hP hD hS => ?_)
  refine g_step hx hb hml hown hts hK hA hl rfl rfl (N2 := 2 * gC S) (N := gC S) rfl (cp_l l dC dI (cy 3) (gB S 83 0) hlt h32) gX1_makeRoom_J7_copyOf_c38d5 rfl eJ7_cp_l (t0 := 3) (k := 5) rfl (by decide) wX1_makeRoom_f22 rfl rfl (by decide +kernel) 39 dX1_makeRoom_39 dX1_makeRoom_40 dX1_makeRoom_41 dX1_makeRoom_44 dX1_makeRoom_45 dX1_makeRoom_46 dX1_makeRoom_49 dX1_makeRoom_50 dX1_makeRoom_53 hP hD hS (by constructor <;> (show _ ≤ _ + 6 * (gC (grow S) - c0); omega)) (gw_E lE) rfl rfl ((gw_lt l2 ne2).trans hi2') (fun q2 H locs hP hD hS => ?_)
  refine g_step hx hb hml hown hts hK hA hl rfl rfl (N2 := 2 * gC S) (N := gC S) rfl (cp_l l dC dI (cy 3) (gB S 84 0) hlt h32) gX1_makeRoom_J7_copyOf_c38d5 rfl eJ7_cp_l (t0 := 3) (k := 6) rfl (by decide) wX1_makeRoom_f25 rfl rfl (by decide +kernel) 56 dX1_makeRoom_56 dX1_makeRoom_57 dX1_makeRoom_58 dX1_makeRoom_61 dX1_makeRoom_62 dX1_makeRoom_63 dX1_makeRoom_66 dX1_makeRoom_67 dX1_makeRoom_70 hP hD hS (by constructor <;> (show _ ≤ _ + 6 * (gC (grow S) - c0); omega)) (gw_E (by rw [gw_len]; omega)) rfl rfl ((gw_lt (by rw [gw_len]; omega) ne3).trans ((gw_lt l3 ne3).trans hi3')) (fun q3 H locs hP hD hS => ?_)
  have hby : ∀ (k : Nat) (q : Nat × va_E), (wl cy ad (g3 q1 q2 q3) (grow S))[k]? = some q → (gw (gw (gw (wl cy ad γ S) iE (ad 1 0) [.ref (ad 6 0), .ref (ad 18 0), .long (gJ S 1 0 2), .ref (ad 81 0), .ref (γ 0), .ref (γ 1), .ref (γ 2), .int (Int32.ofNat (gC S))] 4 q1 (cy 0) (2 * gC S, .inl (va_cpy (gA S 82 0) (fun _ => 0) 0 0 (gC S)))) iE (ad 1 0) ([.ref (ad 6 0), .ref (ad 18 0), .long (gJ S 1 0 2), .ref (ad 81 0), .ref (γ 0), .ref (γ 1), .ref (γ 2), .int (Int32.ofNat (gC S))].set 4 (.ref q1)) 5 q2 (cy 3) (2 * gC S, .inr (.inl (va_cpy (gB S 83 0) (fun _ => 0) 0 0 (gC S))))) iE (ad 1 0) (([.ref (ad 6 0), .ref (ad 18 0), .long (gJ S 1 0 2), .ref (ad 81 0), .ref (γ 0), .ref (γ 1), .ref (γ 2), .int (Int32.ofNat (gC S))].set 4 (.ref q1)).set 5 (.ref q2)) 6 q3 (cy 3) (2 * gC S, .inr (.inl (va_cpy (gB S 84 0) (fun _ => 0) 0 0 (gC S)))))[gIx prs.length k]? = some q := by
    intro k q hk
    have hkl : k < prs.length := by have := (List.getElem?_eq_some_iff.mp hk).1; rw [wl_len] at this; exact this
    have h1 : prs[k]? = some prs[k] := List.getElem?_eq_getElem hkl
    obtain ⟨cn, hcn⟩ : ∃ cn, cn = prs[k] := ⟨_, rfl⟩
    rw [← hcn] at h1
    have hmem : cn ∈ prs := by rw [hcn]; exact List.getElem_mem hkl
    obtain ⟨c1, n1⟩ := cn
    have hw : (wl cy ad (g3 q1 q2 q3) (grow S))[k]? = some (adr ad (g3 q1 q2 q3) c1 n1, co cy ad (g3 q1 q2 q3) (grow S) c1 n1) := by simp [wl, h1]
    have hw0 : (wl cy ad γ S)[k]? = some (adr ad γ c1 n1, co cy ad γ S c1 n1) := by simp [wl, h1]
    rw [hw] at hk
    rw [← Option.some.inj hk]
    unfold gIx
    rw [h1]
    simp only
    have hc84 := (prs_k hmem).1
    by_cases c81 : 82 ≤ c1
    · rw [if_pos c81]
      have hn0 := prs_one hmem (by omega)
      subst hn0
      rcases (show c1 = 82 ∨ c1 = 83 ∨ c1 = 84 by omega) with rfl | rfl | rfl
      · rw [co_g81]
        rw [gw_lt (by rw [gw_len, gw_len, wl_len]; omega) (by rw [wl_len] at lE; omega), gw_lt (by rw [gw_len, wl_len]; omega) (by rw [wl_len] at lE; omega)]
        have := gw_n (ws := wl cy ad γ S) (iE := iE) (hE := ad 1 0) (fs := [.ref (ad 6 0), .ref (ad 18 0), .long (gJ S 1 0 2), .ref (ad 81 0), .ref (γ 0), .ref (γ 1), .ref (γ 2), .int (Int32.ofNat (gC S))]) (k := 4) (q := q1) (cA := cy 0) (x2 := (2 * gC S, .inl (va_cpy (gA S 82 0) (fun _ => 0) 0 0 (gC S)))) lE
        rw [wl_len] at this
        exact this
      · rw [co_gJ (Or.inl rfl)]
        rw [gw_lt (by rw [gw_len, gw_len, wl_len]; omega) (by rw [wl_len] at lE; omega)]
        exact gw_n' (by rw [gw_len, wl_len]) (by rw [wl_len] at lE; omega)
      · rw [co_gJ (Or.inr rfl)]
        exact gw_n' (by rw [gw_len, gw_len, wl_len]) (by rw [wl_len] at lE; omega)
    · rw [if_neg c81]
      by_cases cE : c1 = 1
      · have hn0 := prs_one hmem (by omega)
        subst cE; subst hn0
        have hkE : k = iE := (List.getElem?_inj hkl prs_nd).mp (by rw [h1, hqE])
        rw [hkE, gw_E (by rw [gw_len, gw_len]; omega)]
        have hh : (co cy ad (g3 q1 q2 q3) (grow S) 1 0 : va_E) = .inr (1, [.ref (ad 6 0), .ref (ad 18 0), .long (gJ S 1 0 2), .ref (ad 81 0), .ref q1, .ref q2, .ref q3, .int (gI S 1 0 7)]) := rfl
        rw [hh, h6]
        rfl
      · have hkE : k ≠ iE := fun z => by rw [z, hqE] at h1; cases h1; exact cE rfl
        have lk : k < (wl cy ad γ S).length := by rw [wl_len]; exact hkl
        rw [gw_lt (by rw [gw_len, gw_len]; omega) hkE, gw_lt (by rw [gw_len]; omega) hkE, gw_lt lk hkE, hw0, co_grow (by omega) cE]
        have a1 : adr ad (g3 q1 q2 q3) c1 n1 = adr ad γ c1 n1 := by
          unfold adr
          rw [if_neg (show ¬ kG ≤ c1 by unfold kG; omega), if_neg (show ¬ kG ≤ c1 by unfold kG; omega)]
        rw [a1]
  have hP9 : va_P (dC, dI) clX (wl cy ad (g3 q1 q2 q3) (grow S)) H := hP.by _ hby
  have hD9 : va_D A (wl cy ad (g3 q1 q2 q3) (grow S)) := va_D_by hD _ hby (fun i j hi hj h => gIx_inj rfl i j (by rw [wl_len] at hi; exact hi) (by rw [wl_len] at hj; exact hj) h)
  refine W.widen (k := bc + 6 * (gC (grow S) - c0)) (n := bs + 6 * (gC (grow S) - c0)) (by omega) (by omega) ?_
  exact W.vret hx hb hrt (fun t ht hW => ⟨⟨rfl, g3 q1 q2 q3, by rw [ht]; exact hP9, va_K.moved hW.alike hK, hD9⟩, hS.F ht⟩) hS.2.2 dX1_makeRoom_73
set_option maxRecDepth 100000 in
set_option maxHeartbeats 400000 in
theorem tX1_makeRoom {ad : Nat → Nat → Nat} (X : Ctx) (γ : Nat → Nat) (S : St) : JJ X ad γ (RQm X ad 3 90 outev) (fcm outev) 3 90 cX1_makeRoom 1 RX1 wsX1_makeRoom none (fX1_makeRoom S) S 0 [(0, .ref (ad 1 0))] [] := by
  unfold fX1_makeRoom
  refine j_aload_n 0 0 dX1_makeRoom_0 rfl rfl ?_
  refine j_geti 1 7 nX1_makeRoom_X1 rfl (by decide) (prs_mem (by decide) (by decide)) (by decide) (by decide) wX1_makeRoom_f65 (Or.inl rfl) rfl dX1_makeRoom_1 ?_
  refine j_aload_n 4 0 dX1_makeRoom_4 rfl rfl ?_
  refine j_getg (j := 0) 5 4 nX1_makeRoom_X1 rfl (by decide) (prs_mem (by decide) (by decide)) (by decide) (by decide) wX1_makeRoom_f19 (Or.inl rfl) rfl rfl dX1_makeRoom_5 ?_
  refine j_alen_iald (c := 82) (n := 0) (L := (gC S)) 8 (prs_mem (by decide) (by decide)) (by decide) rfl rfl rfl dX1_makeRoom_8 ?_
  refine j_icmp_ne 9 73 dX1_makeRoom_9 (by decide) (fun _ => ?_) (fun h6 => ?_)
  · exact j_vret 73 rfl dX1_makeRoom_73
  · refine j_aload_n 12 0 dX1_makeRoom_12 rfl rfl ?_
    refine j_geti 13 7 nX1_makeRoom_X1 rfl (by decide) (prs_mem (by decide) (by decide)) (by decide) (by decide) wX1_makeRoom_f65 (Or.inl rfl) rfl dX1_makeRoom_13 ?_
    refine j_sipush (v := 16384) 16 dX1_makeRoom_16 (by decide) ?_
    rw [ite_lt]
    refine j_icmp_ge 19 73 dX1_makeRoom_19 (by decide) (fun _ => ?_) (fun _ => ?_)
    · exact j_vret 73 rfl dX1_makeRoom_73
    · exact t_grow X γ S h6
set_option maxRecDepth 100000 in
set_option maxHeartbeats 400000 in
theorem kX1_makeRoom {ad : Nat → Nat → Nat} (S : St) : ∀ b, fX1_makeRoom S = some b → ∀ l dC dI cy, CT l dC dI cy ad yX1_makeRoom wsX1_makeRoom 3 90 [.ref (ad 1 0)] S none b :=
  fun b hb l dC dI cy => ct_of (l := l) (dC := dC) (dI := dI) (cy := cy) outev (by decide) rfl (Nat.le_of_ble_eq_true rfl) rfl (fun X γ => tX1_makeRoom X γ S) b hb
