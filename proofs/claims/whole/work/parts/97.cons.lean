/-! CONSTRUCTORS: their contracts -/
theorem dfX0 : ∀ j, j < 7 → defaultValue (tyX0 j) = vp_V [.null, .null, .null, .null, .null, .null, .int 0] j := by
  have h : ∀ j : Fin 7, defaultValue (tyX0 j.val) = vp_V [.null, .null, .null, .null, .null, .null, .int 0] j.val := by decide +kernel
  exact fun j hj => h ⟨j, hj⟩
theorem dfX1 : ∀ j, j < 8 → defaultValue (tyX1 j) = vp_V [.null, .null, .long 0, .null, .null, .null, .null, .int 0] j := by
  have h : ∀ j : Fin 8, defaultValue (tyX1 j.val) = vp_V [.null, .null, .long 0, .null, .null, .null, .null, .int 0] j.val := by decide +kernel
  exact fun j hj => h ⟨j, hj⟩
theorem dfX2 : ∀ j, j < 5 → defaultValue (tyX2 j) = vp_V [.null, .null, .int 0, .null, .int 0] j := by
  have h : ∀ j : Fin 5, defaultValue (tyX2 j.val) = vp_V [.null, .null, .int 0, .null, .int 0] j.val := by decide +kernel
  exact fun j hj => h ⟨j, hj⟩
theorem dfX3 : ∀ j, j < 6 → defaultValue (tyX3 j) = vp_V [.int 0, .int 0, .int 0, .int 0, .int 0, .int 0] j := by
  have h : ∀ j : Fin 6, defaultValue (tyX3 j.val) = vp_V [.int 0, .int 0, .int 0, .int 0, .int 0, .int 0] j.val := by decide +kernel
  exact fun j hj => h ⟨j, hj⟩
theorem dfX4 : ∀ j, j < 17 → defaultValue (tyX4 j) = vp_V [.null, .null, .null, .int 0, .null, .null, .null, .null, .int 0, .null, .null, .null, .int 0, .null, .null, .null, .int 0] j := by
  have h : ∀ j : Fin 17, defaultValue (tyX4 j.val) = vp_V [.null, .null, .null, .int 0, .null, .null, .null, .null, .int 0, .null, .null, .null, .int 0, .null, .null, .null, .int 0] j.val := by decide +kernel
  exact fun j hj => h ⟨j, hj⟩
theorem dfX6 : ∀ j, j < 4 → defaultValue (tyX6 j) = vp_V [.null, .null, .int 0, .int 0] j := by
  have h : ∀ j : Fin 4, defaultValue (tyX6 j.val) = vp_V [.null, .null, .int 0, .int 0] j.val := by decide +kernel
  exact fun j hj => h ⟨j, hj⟩
theorem dfX7 : ∀ j, j < 12 → defaultValue (tyX7 j) = vp_V [.null, .null, .null, .null, .null, .null, .int 0, .null, .null, .null, .null, .int 0] j := by
  have h : ∀ j : Fin 12, defaultValue (tyX7 j.val) = vp_V [.null, .null, .null, .null, .null, .null, .int 0, .null, .null, .null, .null, .int 0] j.val := by decide +kernel
  exact fun j hj => h ⟨j, hj⟩
theorem dfX8 : ∀ j, j < 3 → defaultValue (tyX8 j) = vp_V [.null, .null, .int 0] j := by
  have h : ∀ j : Fin 3, defaultValue (tyX8 j.val) = vp_V [.null, .null, .int 0] j.val := by decide +kernel
  exact fun j hj => h ⟨j, hj⟩
theorem dfX9 : ∀ j, j < 4 → defaultValue (tyX9 j) = vp_V [.null, .int 0, .null, .null] j := by
  have h : ∀ j : Fin 4, defaultValue (tyX9 j.val) = vp_V [.null, .int 0, .null, .null] j.val := by decide +kernel
  exact fun j hj => h ⟨j, hj⟩
theorem dfX10 : ∀ j, j < 8 → defaultValue (tyX10 j) = vp_V [.null, .null, .null, .int 0, .null, .null, .int 0, .null] j := by
  have h : ∀ j : Fin 8, defaultValue (tyX10 j.val) = vp_V [.null, .null, .null, .int 0, .null, .null, .int 0, .null] j.val := by decide +kernel
  exact fun j hj => h ⟨j, hj⟩
theorem dfX11 : ∀ j, j < 9 → defaultValue (tyX11 j) = vp_V [.null, .null, .null, .null, .null, .null, .null, .null, .null] j := by
  have h : ∀ j : Fin 9, defaultValue (tyX11 j.val) = vp_V [.null, .null, .null, .null, .null, .null, .null, .null, .null] j.val := by decide +kernel
  exact fun j hj => h ⟨j, hj⟩
theorem dfX12 : ∀ j, j < 40 → defaultValue (tyX12 j) = vp_V [.null, .null, .null, .null, .null, .null, .int 0, .null, .null, .null, .null, .int 0, .null, .int 0, .null, .int 0, .null, .int 0, .null, .int 0, .null, .null, .null, .int 0, .null, .int 0, .null, .null, .int 0, .null, .null, .null, .null, .long 0, .int 0, .int 0, .null, .null, .null, .null] j := by
  have h : ∀ j : Fin 40, defaultValue (tyX12 j.val) = vp_V [.null, .null, .null, .null, .null, .null, .int 0, .null, .null, .null, .null, .int 0, .null, .int 0, .null, .int 0, .null, .int 0, .null, .int 0, .null, .null, .null, .int 0, .null, .int 0, .null, .null, .int 0, .null, .null, .null, .null, .long 0, .int 0, .int 0, .null, .null, .null, .null] j.val := by decide +kernel
  exact fun j hj => h ⟨j, hj⟩
def Pst (cy : Nat → ClassId) (pl : List (Nat × Nat)) (cs : List (Nat × Nat × Nat)) (w : va_W) : Prop := ∃ a : Nat → Nat → Nat, (∀ t ∈ cs, a t.1 t.2.1 = t.2.2) ∧ w = pl.map (cel cy a)
theorem eI3 : yX3_init.cls ≠ "java/lang/invoke/MethodHandle" ∧ yX3_init.cls ≠ "java/lang/invoke/VarHandle" ∧ (parseMethodDescriptor yX3_init.desc).map (fun d => d.parameters.length) = some 0 := by decide +kernel
theorem eI9 : yX9_init.cls ≠ "java/lang/invoke/MethodHandle" ∧ yX9_init.cls ≠ "java/lang/invoke/VarHandle" ∧ (parseMethodDescriptor yX9_init.desc).map (fun d => d.parameters.length) = some 0 := by decide +kernel
theorem eI10 : yX10_init.cls ≠ "java/lang/invoke/MethodHandle" ∧ yX10_init.cls ≠ "java/lang/invoke/VarHandle" ∧ (parseMethodDescriptor yX10_init.desc).map (fun d => d.parameters.length) = some 0 := by decide +kernel
theorem eI7 : yX7_init.cls ≠ "java/lang/invoke/MethodHandle" ∧ yX7_init.cls ≠ "java/lang/invoke/VarHandle" ∧ (parseMethodDescriptor yX7_init.desc).map (fun d => d.parameters.length) = some 0 := by decide +kernel
theorem eI4 : yX4_init.cls ≠ "java/lang/invoke/MethodHandle" ∧ yX4_init.cls ≠ "java/lang/invoke/VarHandle" ∧ (parseMethodDescriptor yX4_init.desc).map (fun d => d.parameters.length) = some 0 := by decide +kernel
theorem eI1 : yX1_init.cls ≠ "java/lang/invoke/MethodHandle" ∧ yX1_init.cls ≠ "java/lang/invoke/VarHandle" ∧ (parseMethodDescriptor yX1_init.desc).map (fun d => d.parameters.length) = some 1 := by decide +kernel
theorem eI0 : yX0_init.cls ≠ "java/lang/invoke/MethodHandle" ∧ yX0_init.cls ≠ "java/lang/invoke/VarHandle" ∧ (parseMethodDescriptor yX0_init.desc).map (fun d => d.parameters.length) = some 0 := by decide +kernel
theorem eI5 : yX5_init.cls ≠ "java/lang/invoke/MethodHandle" ∧ yX5_init.cls ≠ "java/lang/invoke/VarHandle" ∧ (parseMethodDescriptor yX5_init.desc).map (fun d => d.parameters.length) = some 1 := by decide +kernel
theorem eI2 : yX2_init.cls ≠ "java/lang/invoke/MethodHandle" ∧ yX2_init.cls ≠ "java/lang/invoke/VarHandle" ∧ (parseMethodDescriptor yX2_init.desc).map (fun d => d.parameters.length) = some 2 := by decide +kernel
theorem eI6 : yX6_init.cls ≠ "java/lang/invoke/MethodHandle" ∧ yX6_init.cls ≠ "java/lang/invoke/VarHandle" ∧ (parseMethodDescriptor yX6_init.desc).map (fun d => d.parameters.length) = some 1 := by decide +kernel
theorem eI8 : yX8_init.cls ≠ "java/lang/invoke/MethodHandle" ∧ yX8_init.cls ≠ "java/lang/invoke/VarHandle" ∧ (parseMethodDescriptor yX8_init.desc).map (fun d => d.parameters.length) = some 0 := by decide +kernel
theorem eI11 : yX11_init.cls ≠ "java/lang/invoke/MethodHandle" ∧ yX11_init.cls ≠ "java/lang/invoke/VarHandle" ∧ (parseMethodDescriptor yX11_init.desc).map (fun d => d.parameters.length) = some 0 := by decide +kernel
theorem eI12 : yX12_init.cls ≠ "java/lang/invoke/MethodHandle" ∧ yX12_init.cls ≠ "java/lang/invoke/VarHandle" ∧ (parseMethodDescriptor yX12_init.desc).map (fun d => d.parameters.length) = some 0 := by decide +kernel
theorem wI3_0 : Cond.methodLink RX3 3 objectInit ∈ wsX3_init := by decide +kernel
theorem wI3_1 : Cond.instanceMethod objectInit ∈ wsX3_init := by decide +kernel
theorem wI3_2 : Cond.code objectInit ⟨#[0xb1]⟩ 1 none ∈ wsX3_init := by decide +kernel
set_option maxRecDepth 100000 in
set_option maxHeartbeats 1000000 in
theorem kI3 {l : Launch} {dC : Nat → ClassId} {dI : Nat → Nat → Nat} {cy : Nat → ClassId} (h : Nat) : CTI l dC dI cy yX3_init wsX3_init 1 12 0 0 h 3 [.int 0, .int 0, .int 0, .int 0, .int 0, .int 0] [] (fun w => w = [(h, .inr (3, [.int 0, .int 0, .int 0, .int 0, .int 0, .int 0]))]) := by
  refine cti_of (by decide) rfl rfl (Nat.le_of_ble_eq_true rfl) rfl ?_
  intro X hcy hX
  subst hcy
  refine c_aload hX 0 0 dX3_init_0 rfl rfl ?_
  refine c_obj hX 1 wI3_0 wI3_1 wI3_2 dX3_init_1 (Nat.le_of_ble_eq_true rfl) (Nat.le_of_ble_eq_true rfl) ?_
  exact c_ret hX 4 (show _ = _ from rfl) (Nat.le_of_ble_eq_true rfl) (Nat.le_of_ble_eq_true rfl) dX3_init_4
theorem wI0_3 : Cond.methodLink RX0 3 objectInit ∈ wsX0_init := by decide +kernel
theorem wI0_4 : Cond.instanceMethod objectInit ∈ wsX0_init := by decide +kernel
theorem wI0_5 : Cond.code objectInit ⟨#[0xb1]⟩ 1 none ∈ wsX0_init := by decide +kernel
theorem wI0_6 : Cond.arrayClass .int ∈ wsX0_init := by decide +kernel
theorem nI0_X0 : ∀ w ∈ u_ws RX0 TX0 7, w ∈ wsX0_init := by decide +kernel
theorem wI0_7 : Cond.fieldLink RX0 9 "TwoTongues$Claims" "kin" "[I" ∈ wsX0_init := by decide +kernel
theorem wI0_8 : Cond.fieldLink RX0 15 "TwoTongues$Claims" "weight" "[I" ∈ wsX0_init := by decide +kernel
theorem wI0_9 : Cond.fieldLink RX0 18 "TwoTongues$Claims" "elder" "[I" ∈ wsX0_init := by decide +kernel
theorem wI0_10 : Cond.fieldLink RX0 21 "TwoTongues$Claims" "time" "[I" ∈ wsX0_init := by decide +kernel
theorem wI0_11 : Cond.fieldLink RX0 24 "TwoTongues$Claims" "needed" "[I" ∈ wsX0_init := by decide +kernel
theorem wI0_12 : Cond.fieldLink RX0 27 "TwoTongues$Claims" "asked" "[I" ∈ wsX0_init := by decide +kernel
def plI0 : List (Nat × Nat) := [(0, 0), (12, 0), (13, 0), (14, 0), (15, 0), (16, 0), (17, 0)]
set_option maxRecDepth 100000 in
set_option maxHeartbeats 1000000 in
theorem kI0 {l : Launch} {dC : Nat → ClassId} {dI : Nat → Nat → Nat} {cy : Nat → ClassId} (h : Nat) : CTI l dC dI cy yX0_init wsX0_init 1 12 6 54 h 0 [.null, .null, .null, .null, .null, .null, .int 0] [] (Pst cy plI0 [(0, 0, h)]) := by
  refine cti_of (by decide) rfl rfl (Nat.le_of_ble_eq_true rfl) rfl ?_
  intro X hcy hX
  subst hcy
  refine c_aload hX 0 0 dX0_init_0 rfl rfl ?_
  refine c_obj hX 1 wI0_3 wI0_4 wI0_5 dX0_init_1 (Nat.le_of_ble_eq_true rfl) (Nat.le_of_ble_eq_true rfl) ?_
  refine c_aload hX 4 0 dX0_init_4 rfl rfl ?_
  refine c_bipush (v := 9) hX 5 dX0_init_5 (by decide) ?_
  refine c_newa (N := 9) (j := 0) (a0 := (9, .inl (fun _ => 0))) hX 7 wI0_6 rfl (fun _ => rfl) ra_i (fun _ => rfl) (by decide) (by decide) (Nat.le_of_ble_eq_true rfl) (Nat.le_of_ble_eq_true rfl) (Nat.le_of_ble_eq_true rfl) dX0_init_7 (fun q1 => ?_)
  show CJ X _ _ 1 (((h, .inr (0, [.null, .null, .null, .null, .null, .null, .int 0])) :: [(q1, .inl (cyX X 0, (9, .inl (fun _ => 0))))]) : va_W) 1 9 9 [(0, .ref h)] [.ref q1, .ref h]
  refine c_put (ty := .array .int) (own := RX0) hX 9 0 rfl nI0_X0 tyX0 tyX0_ok nmX0 (by decide) wI0_7 rfl (Or.inr ⟨rfl, rfl⟩) (by decide +kernel) rfl rfl (Nat.le_of_ble_eq_true rfl) dX0_init_9 ?_
  show CJ X _ _ 1 (((h, .inr (0, [.ref q1, .null, .null, .null, .null, .null, .int 0])) :: [(q1, .inl (cyX X 0, (9, .inl (fun _ => 0))))]) : va_W) 1 9 12 [(0, .ref h)] []
  refine c_aload hX 12 0 dX0_init_12 rfl rfl ?_
  refine c_bipush (v := 9) hX 13 dX0_init_13 (by decide) ?_
  refine c_newa (N := 9) (j := 0) (a0 := (9, .inl (fun _ => 0))) hX 15 wI0_6 rfl (fun _ => rfl) ra_i (fun _ => rfl) (by decide) (by decide) (Nat.le_of_ble_eq_true rfl) (Nat.le_of_ble_eq_true rfl) (Nat.le_of_ble_eq_true rfl) dX0_init_15 (fun q2 => ?_)
  show CJ X _ _ 1 (((h, .inr (0, [.ref q1, .null, .null, .null, .null, .null, .int 0])) :: [(q1, .inl (cyX X 0, (9, .inl (fun _ => 0)))), (q2, .inl (cyX X 0, (9, .inl (fun _ => 0))))]) : va_W) 2 18 17 [(0, .ref h)] [.ref q2, .ref h]
  refine c_put (ty := .array .int) (own := RX0) hX 17 1 rfl nI0_X0 tyX0 tyX0_ok nmX0 (by decide) wI0_8 rfl (Or.inr ⟨rfl, rfl⟩) (by decide +kernel) rfl rfl (Nat.le_of_ble_eq_true rfl) dX0_init_17 ?_
  show CJ X _ _ 1 (((h, .inr (0, [.ref q1, .ref q2, .null, .null, .null, .null, .int 0])) :: [(q1, .inl (cyX X 0, (9, .inl (fun _ => 0)))), (q2, .inl (cyX X 0, (9, .inl (fun _ => 0))))]) : va_W) 2 18 20 [(0, .ref h)] []
  refine c_aload hX 20 0 dX0_init_20 rfl rfl ?_
  refine c_bipush (v := 9) hX 21 dX0_init_21 (by decide) ?_
  refine c_newa (N := 9) (j := 0) (a0 := (9, .inl (fun _ => 0))) hX 23 wI0_6 rfl (fun _ => rfl) ra_i (fun _ => rfl) (by decide) (by decide) (Nat.le_of_ble_eq_true rfl) (Nat.le_of_ble_eq_true rfl) (Nat.le_of_ble_eq_true rfl) dX0_init_23 (fun q3 => ?_)
  show CJ X _ _ 1 (((h, .inr (0, [.ref q1, .ref q2, .null, .null, .null, .null, .int 0])) :: [(q1, .inl (cyX X 0, (9, .inl (fun _ => 0)))), (q2, .inl (cyX X 0, (9, .inl (fun _ => 0)))), (q3, .inl (cyX X 0, (9, .inl (fun _ => 0))))]) : va_W) 3 27 25 [(0, .ref h)] [.ref q3, .ref h]
  refine c_put (ty := .array .int) (own := RX0) hX 25 2 rfl nI0_X0 tyX0 tyX0_ok nmX0 (by decide) wI0_9 rfl (Or.inr ⟨rfl, rfl⟩) (by decide +kernel) rfl rfl (Nat.le_of_ble_eq_true rfl) dX0_init_25 ?_
  show CJ X _ _ 1 (((h, .inr (0, [.ref q1, .ref q2, .ref q3, .null, .null, .null, .int 0])) :: [(q1, .inl (cyX X 0, (9, .inl (fun _ => 0)))), (q2, .inl (cyX X 0, (9, .inl (fun _ => 0)))), (q3, .inl (cyX X 0, (9, .inl (fun _ => 0))))]) : va_W) 3 27 28 [(0, .ref h)] []
  refine c_aload hX 28 0 dX0_init_28 rfl rfl ?_
  refine c_bipush (v := 9) hX 29 dX0_init_29 (by decide) ?_
  refine c_newa (N := 9) (j := 0) (a0 := (9, .inl (fun _ => 0))) hX 31 wI0_6 rfl (fun _ => rfl) ra_i (fun _ => rfl) (by decide) (by decide) (Nat.le_of_ble_eq_true rfl) (Nat.le_of_ble_eq_true rfl) (Nat.le_of_ble_eq_true rfl) dX0_init_31 (fun q4 => ?_)
  show CJ X _ _ 1 (((h, .inr (0, [.ref q1, .ref q2, .ref q3, .null, .null, .null, .int 0])) :: [(q1, .inl (cyX X 0, (9, .inl (fun _ => 0)))), (q2, .inl (cyX X 0, (9, .inl (fun _ => 0)))), (q3, .inl (cyX X 0, (9, .inl (fun _ => 0)))), (q4, .inl (cyX X 0, (9, .inl (fun _ => 0))))]) : va_W) 4 36 33 [(0, .ref h)] [.ref q4, .ref h]
  refine c_put (ty := .array .int) (own := RX0) hX 33 3 rfl nI0_X0 tyX0 tyX0_ok nmX0 (by decide) wI0_10 rfl (Or.inr ⟨rfl, rfl⟩) (by decide +kernel) rfl rfl (Nat.le_of_ble_eq_true rfl) dX0_init_33 ?_
  show CJ X _ _ 1 (((h, .inr (0, [.ref q1, .ref q2, .ref q3, .ref q4, .null, .null, .int 0])) :: [(q1, .inl (cyX X 0, (9, .inl (fun _ => 0)))), (q2, .inl (cyX X 0, (9, .inl (fun _ => 0)))), (q3, .inl (cyX X 0, (9, .inl (fun _ => 0)))), (q4, .inl (cyX X 0, (9, .inl (fun _ => 0))))]) : va_W) 4 36 36 [(0, .ref h)] []
  refine c_aload hX 36 0 dX0_init_36 rfl rfl ?_
  refine c_bipush (v := 9) hX 37 dX0_init_37 (by decide) ?_
  refine c_newa (N := 9) (j := 0) (a0 := (9, .inl (fun _ => 0))) hX 39 wI0_6 rfl (fun _ => rfl) ra_i (fun _ => rfl) (by decide) (by decide) (Nat.le_of_ble_eq_true rfl) (Nat.le_of_ble_eq_true rfl) (Nat.le_of_ble_eq_true rfl) dX0_init_39 (fun q5 => ?_)
  show CJ X _ _ 1 (((h, .inr (0, [.ref q1, .ref q2, .ref q3, .ref q4, .null, .null, .int 0])) :: [(q1, .inl (cyX X 0, (9, .inl (fun _ => 0)))), (q2, .inl (cyX X 0, (9, .inl (fun _ => 0)))), (q3, .inl (cyX X 0, (9, .inl (fun _ => 0)))), (q4, .inl (cyX X 0, (9, .inl (fun _ => 0)))), (q5, .inl (cyX X 0, (9, .inl (fun _ => 0))))]) : va_W) 5 45 41 [(0, .ref h)] [.ref q5, .ref h]
  refine c_put (ty := .array .int) (own := RX0) hX 41 4 rfl nI0_X0 tyX0 tyX0_ok nmX0 (by decide) wI0_11 rfl (Or.inr ⟨rfl, rfl⟩) (by decide +kernel) rfl rfl (Nat.le_of_ble_eq_true rfl) dX0_init_41 ?_
  show CJ X _ _ 1 (((h, .inr (0, [.ref q1, .ref q2, .ref q3, .ref q4, .ref q5, .null, .int 0])) :: [(q1, .inl (cyX X 0, (9, .inl (fun _ => 0)))), (q2, .inl (cyX X 0, (9, .inl (fun _ => 0)))), (q3, .inl (cyX X 0, (9, .inl (fun _ => 0)))), (q4, .inl (cyX X 0, (9, .inl (fun _ => 0)))), (q5, .inl (cyX X 0, (9, .inl (fun _ => 0))))]) : va_W) 5 45 44 [(0, .ref h)] []
  refine c_aload hX 44 0 dX0_init_44 rfl rfl ?_
  refine c_bipush (v := 9) hX 45 dX0_init_45 (by decide) ?_
  refine c_newa (N := 9) (j := 0) (a0 := (9, .inl (fun _ => 0))) hX 47 wI0_6 rfl (fun _ => rfl) ra_i (fun _ => rfl) (by decide) (by decide) (Nat.le_of_ble_eq_true rfl) (Nat.le_of_ble_eq_true rfl) (Nat.le_of_ble_eq_true rfl) dX0_init_47 (fun q6 => ?_)
  show CJ X _ _ 1 (((h, .inr (0, [.ref q1, .ref q2, .ref q3, .ref q4, .ref q5, .null, .int 0])) :: [(q1, .inl (cyX X 0, (9, .inl (fun _ => 0)))), (q2, .inl (cyX X 0, (9, .inl (fun _ => 0)))), (q3, .inl (cyX X 0, (9, .inl (fun _ => 0)))), (q4, .inl (cyX X 0, (9, .inl (fun _ => 0)))), (q5, .inl (cyX X 0, (9, .inl (fun _ => 0)))), (q6, .inl (cyX X 0, (9, .inl (fun _ => 0))))]) : va_W) 6 54 49 [(0, .ref h)] [.ref q6, .ref h]
  refine c_put (ty := .array .int) (own := RX0) hX 49 5 rfl nI0_X0 tyX0 tyX0_ok nmX0 (by decide) wI0_12 rfl (Or.inr ⟨rfl, rfl⟩) (by decide +kernel) rfl rfl (Nat.le_of_ble_eq_true rfl) dX0_init_49 ?_
  show CJ X _ _ 1 (((h, .inr (0, [.ref q1, .ref q2, .ref q3, .ref q4, .ref q5, .ref q6, .int 0])) :: [(q1, .inl (cyX X 0, (9, .inl (fun _ => 0)))), (q2, .inl (cyX X 0, (9, .inl (fun _ => 0)))), (q3, .inl (cyX X 0, (9, .inl (fun _ => 0)))), (q4, .inl (cyX X 0, (9, .inl (fun _ => 0)))), (q5, .inl (cyX X 0, (9, .inl (fun _ => 0)))), (q6, .inl (cyX X 0, (9, .inl (fun _ => 0))))]) : va_W) 6 54 52 [(0, .ref h)] []
  exact c_ret hX 52 ⟨fun c _ => if c = 0 then h else if c = 12 then q1 else if c = 13 then q2 else if c = 14 then q3 else if c = 15 then q4 else if c = 16 then q5 else if c = 17 then q6 else 0, List.forall_mem_cons.mpr ⟨rfl, fun _ h => absurd h List.not_mem_nil⟩, rfl⟩ (Nat.le_of_ble_eq_true rfl) (Nat.le_of_ble_eq_true rfl) dX0_init_52
theorem wI7_13 : Cond.methodLink RX7 3 objectInit ∈ wsX7_init := by decide +kernel
theorem wI7_14 : Cond.instanceMethod objectInit ∈ wsX7_init := by decide +kernel
theorem wI7_15 : Cond.code objectInit ⟨#[0xb1]⟩ 1 none ∈ wsX7_init := by decide +kernel
theorem wI7_16 : Cond.arrayClass .int ∈ wsX7_init := by decide +kernel
theorem nI7_X7 : ∀ w ∈ u_ws RX7 TX7 12, w ∈ wsX7_init := by decide +kernel
theorem wI7_17 : Cond.fieldLink RX7 9 "TwoTongues$People" "born" "[I" ∈ wsX7_init := by decide +kernel
theorem wI7_18 : Cond.fieldLink RX7 15 "TwoTongues$People" "dead" "[I" ∈ wsX7_init := by decide +kernel
theorem wI7_19 : Cond.fieldLink RX7 18 "TwoTongues$People" "parent" "[I" ∈ wsX7_init := by decide +kernel
theorem wI7_20 : Cond.fieldLink RX7 21 "TwoTongues$People" "otherParent" "[I" ∈ wsX7_init := by decide +kernel
theorem wI7_21 : Cond.fieldLink RX7 24 "TwoTongues$People" "founds" "[I" ∈ wsX7_init := by decide +kernel
theorem wI7_22 : Cond.fieldLink RX7 27 "TwoTongues$People" "kins" "[I" ∈ wsX7_init := by decide +kernel
theorem wI7_23 : Cond.fieldLink RX7 30 "TwoTongues$People" "sayer" "[I" ∈ wsX7_init := by decide +kernel
theorem wI7_24 : Cond.fieldLink RX7 33 "TwoTongues$People" "saidOf" "[I" ∈ wsX7_init := by decide +kernel
theorem wI7_25 : Cond.fieldLink RX7 36 "TwoTongues$People" "saidKin" "[I" ∈ wsX7_init := by decide +kernel
theorem wI7_26 : Cond.arrayClass .boolean ∈ wsX7_init := by decide +kernel
theorem wI7_27 : Cond.fieldLink RX7 39 "TwoTongues$People" "saidSo" "[Z" ∈ wsX7_init := by decide +kernel
def plI7 : List (Nat × Nat) := [(6, 0), (34, 0), (35, 0), (36, 0), (37, 0), (38, 0), (39, 0), (40, 0), (41, 0), (42, 0), (43, 0)]
set_option maxRecDepth 100000 in
set_option maxHeartbeats 1000000 in
theorem kI7 {l : Launch} {dC : Nat → ClassId} {dI : Nat → Nat → Nat} {cy : Nat → ClassId} (h : Nat) : CTI l dC dI cy yX7_init wsX7_init 1 12 10 260 h 6 [.null, .null, .null, .null, .null, .null, .int 0, .null, .null, .null, .null, .int 0] [] (Pst cy plI7 [(6, 0, h)]) := by
  refine cti_of (by decide) rfl rfl (Nat.le_of_ble_eq_true rfl) rfl ?_
  intro X hcy hX
  subst hcy
  refine c_aload hX 0 0 dX7_init_0 rfl rfl ?_
  refine c_obj hX 1 wI7_13 wI7_14 wI7_15 dX7_init_1 (Nat.le_of_ble_eq_true rfl) (Nat.le_of_ble_eq_true rfl) ?_
  refine c_aload hX 4 0 dX7_init_4 rfl rfl ?_
  refine c_bipush (v := 30) hX 5 dX7_init_5 (by decide) ?_
  refine c_newa (N := 30) (j := 0) (a0 := (30, .inl (fun _ => 0))) hX 7 wI7_16 rfl (fun _ => rfl) ra_i (fun _ => rfl) (by decide) (by decide) (Nat.le_of_ble_eq_true rfl) (Nat.le_of_ble_eq_true rfl) (Nat.le_of_ble_eq_true rfl) dX7_init_7 (fun q1 => ?_)
  show CJ X _ _ 1 (((h, .inr (6, [.null, .null, .null, .null, .null, .null, .int 0, .null, .null, .null, .null, .int 0])) :: [(q1, .inl (cyX X 0, (30, .inl (fun _ => 0))))]) : va_W) 1 30 9 [(0, .ref h)] [.ref q1, .ref h]
  refine c_put (ty := .array .int) (own := RX7) hX 9 0 rfl nI7_X7 tyX7 tyX7_ok nmX7 (by decide) wI7_17 rfl (Or.inr ⟨rfl, rfl⟩) (by decide +kernel) rfl rfl (Nat.le_of_ble_eq_true rfl) dX7_init_9 ?_
  show CJ X _ _ 1 (((h, .inr (6, [.ref q1, .null, .null, .null, .null, .null, .int 0, .null, .null, .null, .null, .int 0])) :: [(q1, .inl (cyX X 0, (30, .inl (fun _ => 0))))]) : va_W) 1 30 12 [(0, .ref h)] []
  refine c_aload hX 12 0 dX7_init_12 rfl rfl ?_
  refine c_bipush (v := 30) hX 13 dX7_init_13 (by decide) ?_
  refine c_newa (N := 30) (j := 0) (a0 := (30, .inl (fun _ => 0))) hX 15 wI7_16 rfl (fun _ => rfl) ra_i (fun _ => rfl) (by decide) (by decide) (Nat.le_of_ble_eq_true rfl) (Nat.le_of_ble_eq_true rfl) (Nat.le_of_ble_eq_true rfl) dX7_init_15 (fun q2 => ?_)
  show CJ X _ _ 1 (((h, .inr (6, [.ref q1, .null, .null, .null, .null, .null, .int 0, .null, .null, .null, .null, .int 0])) :: [(q1, .inl (cyX X 0, (30, .inl (fun _ => 0)))), (q2, .inl (cyX X 0, (30, .inl (fun _ => 0))))]) : va_W) 2 60 17 [(0, .ref h)] [.ref q2, .ref h]
  refine c_put (ty := .array .int) (own := RX7) hX 17 1 rfl nI7_X7 tyX7 tyX7_ok nmX7 (by decide) wI7_18 rfl (Or.inr ⟨rfl, rfl⟩) (by decide +kernel) rfl rfl (Nat.le_of_ble_eq_true rfl) dX7_init_17 ?_
  show CJ X _ _ 1 (((h, .inr (6, [.ref q1, .ref q2, .null, .null, .null, .null, .int 0, .null, .null, .null, .null, .int 0])) :: [(q1, .inl (cyX X 0, (30, .inl (fun _ => 0)))), (q2, .inl (cyX X 0, (30, .inl (fun _ => 0))))]) : va_W) 2 60 20 [(0, .ref h)] []
  refine c_aload hX 20 0 dX7_init_20 rfl rfl ?_
  refine c_bipush (v := 30) hX 21 dX7_init_21 (by decide) ?_
  refine c_newa (N := 30) (j := 0) (a0 := (30, .inl (fun _ => 0))) hX 23 wI7_16 rfl (fun _ => rfl) ra_i (fun _ => rfl) (by decide) (by decide) (Nat.le_of_ble_eq_true rfl) (Nat.le_of_ble_eq_true rfl) (Nat.le_of_ble_eq_true rfl) dX7_init_23 (fun q3 => ?_)
  show CJ X _ _ 1 (((h, .inr (6, [.ref q1, .ref q2, .null, .null, .null, .null, .int 0, .null, .null, .null, .null, .int 0])) :: [(q1, .inl (cyX X 0, (30, .inl (fun _ => 0)))), (q2, .inl (cyX X 0, (30, .inl (fun _ => 0)))), (q3, .inl (cyX X 0, (30, .inl (fun _ => 0))))]) : va_W) 3 90 25 [(0, .ref h)] [.ref q3, .ref h]
  refine c_put (ty := .array .int) (own := RX7) hX 25 2 rfl nI7_X7 tyX7 tyX7_ok nmX7 (by decide) wI7_19 rfl (Or.inr ⟨rfl, rfl⟩) (by decide +kernel) rfl rfl (Nat.le_of_ble_eq_true rfl) dX7_init_25 ?_
  show CJ X _ _ 1 (((h, .inr (6, [.ref q1, .ref q2, .ref q3, .null, .null, .null, .int 0, .null, .null, .null, .null, .int 0])) :: [(q1, .inl (cyX X 0, (30, .inl (fun _ => 0)))), (q2, .inl (cyX X 0, (30, .inl (fun _ => 0)))), (q3, .inl (cyX X 0, (30, .inl (fun _ => 0))))]) : va_W) 3 90 28 [(0, .ref h)] []
  refine c_aload hX 28 0 dX7_init_28 rfl rfl ?_
  refine c_bipush (v := 30) hX 29 dX7_init_29 (by decide) ?_
  refine c_newa (N := 30) (j := 0) (a0 := (30, .inl (fun _ => 0))) hX 31 wI7_16 rfl (fun _ => rfl) ra_i (fun _ => rfl) (by decide) (by decide) (Nat.le_of_ble_eq_true rfl) (Nat.le_of_ble_eq_true rfl) (Nat.le_of_ble_eq_true rfl) dX7_init_31 (fun q4 => ?_)
  show CJ X _ _ 1 (((h, .inr (6, [.ref q1, .ref q2, .ref q3, .null, .null, .null, .int 0, .null, .null, .null, .null, .int 0])) :: [(q1, .inl (cyX X 0, (30, .inl (fun _ => 0)))), (q2, .inl (cyX X 0, (30, .inl (fun _ => 0)))), (q3, .inl (cyX X 0, (30, .inl (fun _ => 0)))), (q4, .inl (cyX X 0, (30, .inl (fun _ => 0))))]) : va_W) 4 120 33 [(0, .ref h)] [.ref q4, .ref h]
  refine c_put (ty := .array .int) (own := RX7) hX 33 3 rfl nI7_X7 tyX7 tyX7_ok nmX7 (by decide) wI7_20 rfl (Or.inr ⟨rfl, rfl⟩) (by decide +kernel) rfl rfl (Nat.le_of_ble_eq_true rfl) dX7_init_33 ?_
  show CJ X _ _ 1 (((h, .inr (6, [.ref q1, .ref q2, .ref q3, .ref q4, .null, .null, .int 0, .null, .null, .null, .null, .int 0])) :: [(q1, .inl (cyX X 0, (30, .inl (fun _ => 0)))), (q2, .inl (cyX X 0, (30, .inl (fun _ => 0)))), (q3, .inl (cyX X 0, (30, .inl (fun _ => 0)))), (q4, .inl (cyX X 0, (30, .inl (fun _ => 0))))]) : va_W) 4 120 36 [(0, .ref h)] []
  refine c_aload hX 36 0 dX7_init_36 rfl rfl ?_
  refine c_bipush (v := 30) hX 37 dX7_init_37 (by decide) ?_
  refine c_newa (N := 30) (j := 0) (a0 := (30, .inl (fun _ => 0))) hX 39 wI7_16 rfl (fun _ => rfl) ra_i (fun _ => rfl) (by decide) (by decide) (Nat.le_of_ble_eq_true rfl) (Nat.le_of_ble_eq_true rfl) (Nat.le_of_ble_eq_true rfl) dX7_init_39 (fun q5 => ?_)
  show CJ X _ _ 1 (((h, .inr (6, [.ref q1, .ref q2, .ref q3, .ref q4, .null, .null, .int 0, .null, .null, .null, .null, .int 0])) :: [(q1, .inl (cyX X 0, (30, .inl (fun _ => 0)))), (q2, .inl (cyX X 0, (30, .inl (fun _ => 0)))), (q3, .inl (cyX X 0, (30, .inl (fun _ => 0)))), (q4, .inl (cyX X 0, (30, .inl (fun _ => 0)))), (q5, .inl (cyX X 0, (30, .inl (fun _ => 0))))]) : va_W) 5 150 41 [(0, .ref h)] [.ref q5, .ref h]
  refine c_put (ty := .array .int) (own := RX7) hX 41 4 rfl nI7_X7 tyX7 tyX7_ok nmX7 (by decide) wI7_21 rfl (Or.inr ⟨rfl, rfl⟩) (by decide +kernel) rfl rfl (Nat.le_of_ble_eq_true rfl) dX7_init_41 ?_
  show CJ X _ _ 1 (((h, .inr (6, [.ref q1, .ref q2, .ref q3, .ref q4, .ref q5, .null, .int 0, .null, .null, .null, .null, .int 0])) :: [(q1, .inl (cyX X 0, (30, .inl (fun _ => 0)))), (q2, .inl (cyX X 0, (30, .inl (fun _ => 0)))), (q3, .inl (cyX X 0, (30, .inl (fun _ => 0)))), (q4, .inl (cyX X 0, (30, .inl (fun _ => 0)))), (q5, .inl (cyX X 0, (30, .inl (fun _ => 0))))]) : va_W) 5 150 44 [(0, .ref h)] []
  refine c_aload hX 44 0 dX7_init_44 rfl rfl ?_
  refine c_bipush (v := 30) hX 45 dX7_init_45 (by decide) ?_
  refine c_newa (N := 30) (j := 0) (a0 := (30, .inl (fun _ => 0))) hX 47 wI7_16 rfl (fun _ => rfl) ra_i (fun _ => rfl) (by decide) (by decide) (Nat.le_of_ble_eq_true rfl) (Nat.le_of_ble_eq_true rfl) (Nat.le_of_ble_eq_true rfl) dX7_init_47 (fun q6 => ?_)
  show CJ X _ _ 1 (((h, .inr (6, [.ref q1, .ref q2, .ref q3, .ref q4, .ref q5, .null, .int 0, .null, .null, .null, .null, .int 0])) :: [(q1, .inl (cyX X 0, (30, .inl (fun _ => 0)))), (q2, .inl (cyX X 0, (30, .inl (fun _ => 0)))), (q3, .inl (cyX X 0, (30, .inl (fun _ => 0)))), (q4, .inl (cyX X 0, (30, .inl (fun _ => 0)))), (q5, .inl (cyX X 0, (30, .inl (fun _ => 0)))), (q6, .inl (cyX X 0, (30, .inl (fun _ => 0))))]) : va_W) 6 180 49 [(0, .ref h)] [.ref q6, .ref h]
  refine c_put (ty := .array .int) (own := RX7) hX 49 5 rfl nI7_X7 tyX7 tyX7_ok nmX7 (by decide) wI7_22 rfl (Or.inr ⟨rfl, rfl⟩) (by decide +kernel) rfl rfl (Nat.le_of_ble_eq_true rfl) dX7_init_49 ?_
  show CJ X _ _ 1 (((h, .inr (6, [.ref q1, .ref q2, .ref q3, .ref q4, .ref q5, .ref q6, .int 0, .null, .null, .null, .null, .int 0])) :: [(q1, .inl (cyX X 0, (30, .inl (fun _ => 0)))), (q2, .inl (cyX X 0, (30, .inl (fun _ => 0)))), (q3, .inl (cyX X 0, (30, .inl (fun _ => 0)))), (q4, .inl (cyX X 0, (30, .inl (fun _ => 0)))), (q5, .inl (cyX X 0, (30, .inl (fun _ => 0)))), (q6, .inl (cyX X 0, (30, .inl (fun _ => 0))))]) : va_W) 6 180 52 [(0, .ref h)] []
  refine c_aload hX 52 0 dX7_init_52 rfl rfl ?_
  refine c_bipush (v := 20) hX 53 dX7_init_53 (by decide) ?_
  refine c_newa (N := 20) (j := 0) (a0 := (20, .inl (fun _ => 0))) hX 55 wI7_16 rfl (fun _ => rfl) ra_i (fun _ => rfl) (by decide) (by decide) (Nat.le_of_ble_eq_true rfl) (Nat.le_of_ble_eq_true rfl) (Nat.le_of_ble_eq_true rfl) dX7_init_55 (fun q7 => ?_)
  show CJ X _ _ 1 (((h, .inr (6, [.ref q1, .ref q2, .ref q3, .ref q4, .ref q5, .ref q6, .int 0, .null, .null, .null, .null, .int 0])) :: [(q1, .inl (cyX X 0, (30, .inl (fun _ => 0)))), (q2, .inl (cyX X 0, (30, .inl (fun _ => 0)))), (q3, .inl (cyX X 0, (30, .inl (fun _ => 0)))), (q4, .inl (cyX X 0, (30, .inl (fun _ => 0)))), (q5, .inl (cyX X 0, (30, .inl (fun _ => 0)))), (q6, .inl (cyX X 0, (30, .inl (fun _ => 0)))), (q7, .inl (cyX X 0, (20, .inl (fun _ => 0))))]) : va_W) 7 200 57 [(0, .ref h)] [.ref q7, .ref h]
  refine c_put (ty := .array .int) (own := RX7) hX 57 7 rfl nI7_X7 tyX7 tyX7_ok nmX7 (by decide) wI7_23 rfl (Or.inr ⟨rfl, rfl⟩) (by decide +kernel) rfl rfl (Nat.le_of_ble_eq_true rfl) dX7_init_57 ?_
  show CJ X _ _ 1 (((h, .inr (6, [.ref q1, .ref q2, .ref q3, .ref q4, .ref q5, .ref q6, .int 0, .ref q7, .null, .null, .null, .int 0])) :: [(q1, .inl (cyX X 0, (30, .inl (fun _ => 0)))), (q2, .inl (cyX X 0, (30, .inl (fun _ => 0)))), (q3, .inl (cyX X 0, (30, .inl (fun _ => 0)))), (q4, .inl (cyX X 0, (30, .inl (fun _ => 0)))), (q5, .inl (cyX X 0, (30, .inl (fun _ => 0)))), (q6, .inl (cyX X 0, (30, .inl (fun _ => 0)))), (q7, .inl (cyX X 0, (20, .inl (fun _ => 0))))]) : va_W) 7 200 60 [(0, .ref h)] []
  refine c_aload hX 60 0 dX7_init_60 rfl rfl ?_
  refine c_bipush (v := 20) hX 61 dX7_init_61 (by decide) ?_
  refine c_newa (N := 20) (j := 0) (a0 := (20, .inl (fun _ => 0))) hX 63 wI7_16 rfl (fun _ => rfl) ra_i (fun _ => rfl) (by decide) (by decide) (Nat.le_of_ble_eq_true rfl) (Nat.le_of_ble_eq_true rfl) (Nat.le_of_ble_eq_true rfl) dX7_init_63 (fun q8 => ?_)
  show CJ X _ _ 1 (((h, .inr (6, [.ref q1, .ref q2, .ref q3, .ref q4, .ref q5, .ref q6, .int 0, .ref q7, .null, .null, .null, .int 0])) :: [(q1, .inl (cyX X 0, (30, .inl (fun _ => 0)))), (q2, .inl (cyX X 0, (30, .inl (fun _ => 0)))), (q3, .inl (cyX X 0, (30, .inl (fun _ => 0)))), (q4, .inl (cyX X 0, (30, .inl (fun _ => 0)))), (q5, .inl (cyX X 0, (30, .inl (fun _ => 0)))), (q6, .inl (cyX X 0, (30, .inl (fun _ => 0)))), (q7, .inl (cyX X 0, (20, .inl (fun _ => 0)))), (q8, .inl (cyX X 0, (20, .inl (fun _ => 0))))]) : va_W) 8 220 65 [(0, .ref h)] [.ref q8, .ref h]
  refine c_put (ty := .array .int) (own := RX7) hX 65 8 rfl nI7_X7 tyX7 tyX7_ok nmX7 (by decide) wI7_24 rfl (Or.inr ⟨rfl, rfl⟩) (by decide +kernel) rfl rfl (Nat.le_of_ble_eq_true rfl) dX7_init_65 ?_
  show CJ X _ _ 1 (((h, .inr (6, [.ref q1, .ref q2, .ref q3, .ref q4, .ref q5, .ref q6, .int 0, .ref q7, .ref q8, .null, .null, .int 0])) :: [(q1, .inl (cyX X 0, (30, .inl (fun _ => 0)))), (q2, .inl (cyX X 0, (30, .inl (fun _ => 0)))), (q3, .inl (cyX X 0, (30, .inl (fun _ => 0)))), (q4, .inl (cyX X 0, (30, .inl (fun _ => 0)))), (q5, .inl (cyX X 0, (30, .inl (fun _ => 0)))), (q6, .inl (cyX X 0, (30, .inl (fun _ => 0)))), (q7, .inl (cyX X 0, (20, .inl (fun _ => 0)))), (q8, .inl (cyX X 0, (20, .inl (fun _ => 0))))]) : va_W) 8 220 68 [(0, .ref h)] []
  refine c_aload hX 68 0 dX7_init_68 rfl rfl ?_
  refine c_bipush (v := 20) hX 69 dX7_init_69 (by decide) ?_
  refine c_newa (N := 20) (j := 0) (a0 := (20, .inl (fun _ => 0))) hX 71 wI7_16 rfl (fun _ => rfl) ra_i (fun _ => rfl) (by decide) (by decide) (Nat.le_of_ble_eq_true rfl) (Nat.le_of_ble_eq_true rfl) (Nat.le_of_ble_eq_true rfl) dX7_init_71 (fun q9 => ?_)
  show CJ X _ _ 1 (((h, .inr (6, [.ref q1, .ref q2, .ref q3, .ref q4, .ref q5, .ref q6, .int 0, .ref q7, .ref q8, .null, .null, .int 0])) :: [(q1, .inl (cyX X 0, (30, .inl (fun _ => 0)))), (q2, .inl (cyX X 0, (30, .inl (fun _ => 0)))), (q3, .inl (cyX X 0, (30, .inl (fun _ => 0)))), (q4, .inl (cyX X 0, (30, .inl (fun _ => 0)))), (q5, .inl (cyX X 0, (30, .inl (fun _ => 0)))), (q6, .inl (cyX X 0, (30, .inl (fun _ => 0)))), (q7, .inl (cyX X 0, (20, .inl (fun _ => 0)))), (q8, .inl (cyX X 0, (20, .inl (fun _ => 0)))), (q9, .inl (cyX X 0, (20, .inl (fun _ => 0))))]) : va_W) 9 240 73 [(0, .ref h)] [.ref q9, .ref h]
  refine c_put (ty := .array .int) (own := RX7) hX 73 9 rfl nI7_X7 tyX7 tyX7_ok nmX7 (by decide) wI7_25 rfl (Or.inr ⟨rfl, rfl⟩) (by decide +kernel) rfl rfl (Nat.le_of_ble_eq_true rfl) dX7_init_73 ?_
  show CJ X _ _ 1 (((h, .inr (6, [.ref q1, .ref q2, .ref q3, .ref q4, .ref q5, .ref q6, .int 0, .ref q7, .ref q8, .ref q9, .null, .int 0])) :: [(q1, .inl (cyX X 0, (30, .inl (fun _ => 0)))), (q2, .inl (cyX X 0, (30, .inl (fun _ => 0)))), (q3, .inl (cyX X 0, (30, .inl (fun _ => 0)))), (q4, .inl (cyX X 0, (30, .inl (fun _ => 0)))), (q5, .inl (cyX X 0, (30, .inl (fun _ => 0)))), (q6, .inl (cyX X 0, (30, .inl (fun _ => 0)))), (q7, .inl (cyX X 0, (20, .inl (fun _ => 0)))), (q8, .inl (cyX X 0, (20, .inl (fun _ => 0)))), (q9, .inl (cyX X 0, (20, .inl (fun _ => 0))))]) : va_W) 9 240 76 [(0, .ref h)] []
  refine c_aload hX 76 0 dX7_init_76 rfl rfl ?_
  refine c_bipush (v := 20) hX 77 dX7_init_77 (by decide) ?_
  refine c_newa (N := 20) (j := 2) (a0 := (20, .inl (fun _ => 0))) hX 79 wI7_26 rfl (fun _ => rfl) ra_z (fun _ => rfl) (by decide) (by decide) (Nat.le_of_ble_eq_true rfl) (Nat.le_of_ble_eq_true rfl) (Nat.le_of_ble_eq_true rfl) dX7_init_79 (fun q10 => ?_)
  show CJ X _ _ 1 (((h, .inr (6, [.ref q1, .ref q2, .ref q3, .ref q4, .ref q5, .ref q6, .int 0, .ref q7, .ref q8, .ref q9, .null, .int 0])) :: [(q1, .inl (cyX X 0, (30, .inl (fun _ => 0)))), (q2, .inl (cyX X 0, (30, .inl (fun _ => 0)))), (q3, .inl (cyX X 0, (30, .inl (fun _ => 0)))), (q4, .inl (cyX X 0, (30, .inl (fun _ => 0)))), (q5, .inl (cyX X 0, (30, .inl (fun _ => 0)))), (q6, .inl (cyX X 0, (30, .inl (fun _ => 0)))), (q7, .inl (cyX X 0, (20, .inl (fun _ => 0)))), (q8, .inl (cyX X 0, (20, .inl (fun _ => 0)))), (q9, .inl (cyX X 0, (20, .inl (fun _ => 0)))), (q10, .inl (cyX X 2, (20, .inl (fun _ => 0))))]) : va_W) 10 260 81 [(0, .ref h)] [.ref q10, .ref h]
  refine c_put (ty := .array .boolean) (own := RX7) hX 81 10 rfl nI7_X7 tyX7 tyX7_ok nmX7 (by decide) wI7_27 rfl (Or.inr ⟨rfl, rfl⟩) (by decide +kernel) rfl rfl (Nat.le_of_ble_eq_true rfl) dX7_init_81 ?_
  show CJ X _ _ 1 (((h, .inr (6, [.ref q1, .ref q2, .ref q3, .ref q4, .ref q5, .ref q6, .int 0, .ref q7, .ref q8, .ref q9, .ref q10, .int 0])) :: [(q1, .inl (cyX X 0, (30, .inl (fun _ => 0)))), (q2, .inl (cyX X 0, (30, .inl (fun _ => 0)))), (q3, .inl (cyX X 0, (30, .inl (fun _ => 0)))), (q4, .inl (cyX X 0, (30, .inl (fun _ => 0)))), (q5, .inl (cyX X 0, (30, .inl (fun _ => 0)))), (q6, .inl (cyX X 0, (30, .inl (fun _ => 0)))), (q7, .inl (cyX X 0, (20, .inl (fun _ => 0)))), (q8, .inl (cyX X 0, (20, .inl (fun _ => 0)))), (q9, .inl (cyX X 0, (20, .inl (fun _ => 0)))), (q10, .inl (cyX X 2, (20, .inl (fun _ => 0))))]) : va_W) 10 260 84 [(0, .ref h)] []
  exact c_ret hX 84 ⟨fun c _ => if c = 6 then h else if c = 34 then q1 else if c = 35 then q2 else if c = 36 then q3 else if c = 37 then q4 else if c = 38 then q5 else if c = 39 then q6 else if c = 40 then q7 else if c = 41 then q8 else if c = 42 then q9 else if c = 43 then q10 else 0, List.forall_mem_cons.mpr ⟨rfl, fun _ h => absurd h List.not_mem_nil⟩, rfl⟩ (Nat.le_of_ble_eq_true rfl) (Nat.le_of_ble_eq_true rfl) dX7_init_84
theorem wI4_28 : Cond.methodLink RX4 3 objectInit ∈ wsX4_init := by decide +kernel
theorem wI4_29 : Cond.instanceMethod objectInit ∈ wsX4_init := by decide +kernel
theorem wI4_30 : Cond.code objectInit ⟨#[0xb1]⟩ 1 none ∈ wsX4_init := by decide +kernel
theorem wI4_31 : Cond.arrayClass .int ∈ wsX4_init := by decide +kernel
theorem nI4_X4 : ∀ w ∈ u_ws RX4 TX4 17, w ∈ wsX4_init := by decide +kernel
theorem wI4_32 : Cond.fieldLink RX4 9 "TwoTongues$Land" "worth" "[I" ∈ wsX4_init := by decide +kernel
theorem wI4_33 : Cond.fieldLink RX4 15 "TwoTongues$Land" "sharedKin" "[I" ∈ wsX4_init := by decide +kernel
theorem wI4_34 : Cond.fieldLink RX4 18 "TwoTongues$Land" "sharedFrom" "[I" ∈ wsX4_init := by decide +kernel
theorem wI4_35 : Cond.fieldLink RX4 21 "TwoTongues$Land" "heldBlock" "[I" ∈ wsX4_init := by decide +kernel
theorem wI4_36 : Cond.arrayClass .boolean ∈ wsX4_init := by decide +kernel
theorem wI4_37 : Cond.fieldLink RX4 24 "TwoTongues$Land" "heldByUse" "[Z" ∈ wsX4_init := by decide +kernel
theorem wI4_38 : Cond.fieldLink RX4 28 "TwoTongues$Land" "holder" "[I" ∈ wsX4_init := by decide +kernel
theorem wI4_39 : Cond.fieldLink RX4 31 "TwoTongues$Land" "heldFrom" "[I" ∈ wsX4_init := by decide +kernel
theorem wI4_40 : Cond.fieldLink RX4 34 "TwoTongues$Land" "soldBlock" "[I" ∈ wsX4_init := by decide +kernel
theorem wI4_41 : Cond.fieldLink RX4 37 "TwoTongues$Land" "seller" "[I" ∈ wsX4_init := by decide +kernel
theorem wI4_42 : Cond.fieldLink RX4 40 "TwoTongues$Land" "soldIn" "[I" ∈ wsX4_init := by decide +kernel
theorem wI4_43 : Cond.fieldLink RX4 43 "TwoTongues$Land" "takenBlock" "[I" ∈ wsX4_init := by decide +kernel
theorem wI4_44 : Cond.fieldLink RX4 46 "TwoTongues$Land" "taker" "[I" ∈ wsX4_init := by decide +kernel
theorem wI4_45 : Cond.fieldLink RX4 49 "TwoTongues$Land" "takenIn" "[I" ∈ wsX4_init := by decide +kernel
def plI4 : List (Nat × Nat) := [(4, 0), (20, 0), (21, 0), (22, 0), (23, 0), (24, 0), (25, 0), (26, 0), (27, 0), (28, 0), (29, 0), (30, 0), (31, 0), (32, 0)]
set_option maxRecDepth 100000 in
set_option maxHeartbeats 1000000 in
theorem kI4 {l : Launch} {dC : Nat → ClassId} {dI : Nat → Nat → Nat} {cy : Nat → ClassId} (h : Nat) : CTI l dC dI cy yX4_init wsX4_init 1 12 13 372 h 4 [.null, .null, .null, .int 0, .null, .null, .null, .null, .int 0, .null, .null, .null, .int 0, .null, .null, .null, .int 0] [] (Pst cy plI4 [(4, 0, h)]) := by
  refine cti_of (by decide) rfl rfl (Nat.le_of_ble_eq_true rfl) rfl ?_
  intro X hcy hX
  subst hcy
  refine c_aload hX 0 0 dX4_init_0 rfl rfl ?_
  refine c_obj hX 1 wI4_28 wI4_29 wI4_30 dX4_init_1 (Nat.le_of_ble_eq_true rfl) (Nat.le_of_ble_eq_true rfl) ?_
  refine c_aload hX 4 0 dX4_init_4 rfl rfl ?_
  refine c_bipush (v := 12) hX 5 dX4_init_5 (by decide) ?_
  refine c_newa (N := 12) (j := 0) (a0 := (12, .inl (fun _ => 0))) hX 7 wI4_31 rfl (fun _ => rfl) ra_i (fun _ => rfl) (by decide) (by decide) (Nat.le_of_ble_eq_true rfl) (Nat.le_of_ble_eq_true rfl) (Nat.le_of_ble_eq_true rfl) dX4_init_7 (fun q1 => ?_)
  show CJ X _ _ 1 (((h, .inr (4, [.null, .null, .null, .int 0, .null, .null, .null, .null, .int 0, .null, .null, .null, .int 0, .null, .null, .null, .int 0])) :: [(q1, .inl (cyX X 0, (12, .inl (fun _ => 0))))]) : va_W) 1 12 9 [(0, .ref h)] [.ref q1, .ref h]
  refine c_put (ty := .array .int) (own := RX4) hX 9 0 rfl nI4_X4 tyX4 tyX4_ok nmX4 (by decide) wI4_32 rfl (Or.inr ⟨rfl, rfl⟩) (by decide +kernel) rfl rfl (Nat.le_of_ble_eq_true rfl) dX4_init_9 ?_
  show CJ X _ _ 1 (((h, .inr (4, [.ref q1, .null, .null, .int 0, .null, .null, .null, .null, .int 0, .null, .null, .null, .int 0, .null, .null, .null, .int 0])) :: [(q1, .inl (cyX X 0, (12, .inl (fun _ => 0))))]) : va_W) 1 12 12 [(0, .ref h)] []
  refine c_aload hX 12 0 dX4_init_12 rfl rfl ?_
  refine c_bipush (v := 12) hX 13 dX4_init_13 (by decide) ?_
  refine c_newa (N := 12) (j := 0) (a0 := (12, .inl (fun _ => 0))) hX 15 wI4_31 rfl (fun _ => rfl) ra_i (fun _ => rfl) (by decide) (by decide) (Nat.le_of_ble_eq_true rfl) (Nat.le_of_ble_eq_true rfl) (Nat.le_of_ble_eq_true rfl) dX4_init_15 (fun q2 => ?_)
  show CJ X _ _ 1 (((h, .inr (4, [.ref q1, .null, .null, .int 0, .null, .null, .null, .null, .int 0, .null, .null, .null, .int 0, .null, .null, .null, .int 0])) :: [(q1, .inl (cyX X 0, (12, .inl (fun _ => 0)))), (q2, .inl (cyX X 0, (12, .inl (fun _ => 0))))]) : va_W) 2 24 17 [(0, .ref h)] [.ref q2, .ref h]
  refine c_put (ty := .array .int) (own := RX4) hX 17 1 rfl nI4_X4 tyX4 tyX4_ok nmX4 (by decide) wI4_33 rfl (Or.inr ⟨rfl, rfl⟩) (by decide +kernel) rfl rfl (Nat.le_of_ble_eq_true rfl) dX4_init_17 ?_
  show CJ X _ _ 1 (((h, .inr (4, [.ref q1, .ref q2, .null, .int 0, .null, .null, .null, .null, .int 0, .null, .null, .null, .int 0, .null, .null, .null, .int 0])) :: [(q1, .inl (cyX X 0, (12, .inl (fun _ => 0)))), (q2, .inl (cyX X 0, (12, .inl (fun _ => 0))))]) : va_W) 2 24 20 [(0, .ref h)] []
  refine c_aload hX 20 0 dX4_init_20 rfl rfl ?_
  refine c_bipush (v := 12) hX 21 dX4_init_21 (by decide) ?_
  refine c_newa (N := 12) (j := 0) (a0 := (12, .inl (fun _ => 0))) hX 23 wI4_31 rfl (fun _ => rfl) ra_i (fun _ => rfl) (by decide) (by decide) (Nat.le_of_ble_eq_true rfl) (Nat.le_of_ble_eq_true rfl) (Nat.le_of_ble_eq_true rfl) dX4_init_23 (fun q3 => ?_)
  show CJ X _ _ 1 (((h, .inr (4, [.ref q1, .ref q2, .null, .int 0, .null, .null, .null, .null, .int 0, .null, .null, .null, .int 0, .null, .null, .null, .int 0])) :: [(q1, .inl (cyX X 0, (12, .inl (fun _ => 0)))), (q2, .inl (cyX X 0, (12, .inl (fun _ => 0)))), (q3, .inl (cyX X 0, (12, .inl (fun _ => 0))))]) : va_W) 3 36 25 [(0, .ref h)] [.ref q3, .ref h]
  refine c_put (ty := .array .int) (own := RX4) hX 25 2 rfl nI4_X4 tyX4 tyX4_ok nmX4 (by decide) wI4_34 rfl (Or.inr ⟨rfl, rfl⟩) (by decide +kernel) rfl rfl (Nat.le_of_ble_eq_true rfl) dX4_init_25 ?_
  show CJ X _ _ 1 (((h, .inr (4, [.ref q1, .ref q2, .ref q3, .int 0, .null, .null, .null, .null, .int 0, .null, .null, .null, .int 0, .null, .null, .null, .int 0])) :: [(q1, .inl (cyX X 0, (12, .inl (fun _ => 0)))), (q2, .inl (cyX X 0, (12, .inl (fun _ => 0)))), (q3, .inl (cyX X 0, (12, .inl (fun _ => 0))))]) : va_W) 3 36 28 [(0, .ref h)] []
  refine c_aload hX 28 0 dX4_init_28 rfl rfl ?_
  refine c_bipush (v := 60) hX 29 dX4_init_29 (by decide) ?_
  refine c_newa (N := 60) (j := 0) (a0 := (60, .inl (fun _ => 0))) hX 31 wI4_31 rfl (fun _ => rfl) ra_i (fun _ => rfl) (by decide) (by decide) (Nat.le_of_ble_eq_true rfl) (Nat.le_of_ble_eq_true rfl) (Nat.le_of_ble_eq_true rfl) dX4_init_31 (fun q4 => ?_)
  show CJ X _ _ 1 (((h, .inr (4, [.ref q1, .ref q2, .ref q3, .int 0, .null, .null, .null, .null, .int 0, .null, .null, .null, .int 0, .null, .null, .null, .int 0])) :: [(q1, .inl (cyX X 0, (12, .inl (fun _ => 0)))), (q2, .inl (cyX X 0, (12, .inl (fun _ => 0)))), (q3, .inl (cyX X 0, (12, .inl (fun _ => 0)))), (q4, .inl (cyX X 0, (60, .inl (fun _ => 0))))]) : va_W) 4 96 33 [(0, .ref h)] [.ref q4, .ref h]
  refine c_put (ty := .array .int) (own := RX4) hX 33 4 rfl nI4_X4 tyX4 tyX4_ok nmX4 (by decide) wI4_35 rfl (Or.inr ⟨rfl, rfl⟩) (by decide +kernel) rfl rfl (Nat.le_of_ble_eq_true rfl) dX4_init_33 ?_
  show CJ X _ _ 1 (((h, .inr (4, [.ref q1, .ref q2, .ref q3, .int 0, .ref q4, .null, .null, .null, .int 0, .null, .null, .null, .int 0, .null, .null, .null, .int 0])) :: [(q1, .inl (cyX X 0, (12, .inl (fun _ => 0)))), (q2, .inl (cyX X 0, (12, .inl (fun _ => 0)))), (q3, .inl (cyX X 0, (12, .inl (fun _ => 0)))), (q4, .inl (cyX X 0, (60, .inl (fun _ => 0))))]) : va_W) 4 96 36 [(0, .ref h)] []
  refine c_aload hX 36 0 dX4_init_36 rfl rfl ?_
  refine c_bipush (v := 60) hX 37 dX4_init_37 (by decide) ?_
  refine c_newa (N := 60) (j := 2) (a0 := (60, .inl (fun _ => 0))) hX 39 wI4_36 rfl (fun _ => rfl) ra_z (fun _ => rfl) (by decide) (by decide) (Nat.le_of_ble_eq_true rfl) (Nat.le_of_ble_eq_true rfl) (Nat.le_of_ble_eq_true rfl) dX4_init_39 (fun q5 => ?_)
  show CJ X _ _ 1 (((h, .inr (4, [.ref q1, .ref q2, .ref q3, .int 0, .ref q4, .null, .null, .null, .int 0, .null, .null, .null, .int 0, .null, .null, .null, .int 0])) :: [(q1, .inl (cyX X 0, (12, .inl (fun _ => 0)))), (q2, .inl (cyX X 0, (12, .inl (fun _ => 0)))), (q3, .inl (cyX X 0, (12, .inl (fun _ => 0)))), (q4, .inl (cyX X 0, (60, .inl (fun _ => 0)))), (q5, .inl (cyX X 2, (60, .inl (fun _ => 0))))]) : va_W) 5 156 41 [(0, .ref h)] [.ref q5, .ref h]
  refine c_put (ty := .array .boolean) (own := RX4) hX 41 5 rfl nI4_X4 tyX4 tyX4_ok nmX4 (by decide) wI4_37 rfl (Or.inr ⟨rfl, rfl⟩) (by decide +kernel) rfl rfl (Nat.le_of_ble_eq_true rfl) dX4_init_41 ?_
  show CJ X _ _ 1 (((h, .inr (4, [.ref q1, .ref q2, .ref q3, .int 0, .ref q4, .ref q5, .null, .null, .int 0, .null, .null, .null, .int 0, .null, .null, .null, .int 0])) :: [(q1, .inl (cyX X 0, (12, .inl (fun _ => 0)))), (q2, .inl (cyX X 0, (12, .inl (fun _ => 0)))), (q3, .inl (cyX X 0, (12, .inl (fun _ => 0)))), (q4, .inl (cyX X 0, (60, .inl (fun _ => 0)))), (q5, .inl (cyX X 2, (60, .inl (fun _ => 0))))]) : va_W) 5 156 44 [(0, .ref h)] []
  refine c_aload hX 44 0 dX4_init_44 rfl rfl ?_
  refine c_bipush (v := 60) hX 45 dX4_init_45 (by decide) ?_
  refine c_newa (N := 60) (j := 0) (a0 := (60, .inl (fun _ => 0))) hX 47 wI4_31 rfl (fun _ => rfl) ra_i (fun _ => rfl) (by decide) (by decide) (Nat.le_of_ble_eq_true rfl) (Nat.le_of_ble_eq_true rfl) (Nat.le_of_ble_eq_true rfl) dX4_init_47 (fun q6 => ?_)
  show CJ X _ _ 1 (((h, .inr (4, [.ref q1, .ref q2, .ref q3, .int 0, .ref q4, .ref q5, .null, .null, .int 0, .null, .null, .null, .int 0, .null, .null, .null, .int 0])) :: [(q1, .inl (cyX X 0, (12, .inl (fun _ => 0)))), (q2, .inl (cyX X 0, (12, .inl (fun _ => 0)))), (q3, .inl (cyX X 0, (12, .inl (fun _ => 0)))), (q4, .inl (cyX X 0, (60, .inl (fun _ => 0)))), (q5, .inl (cyX X 2, (60, .inl (fun _ => 0)))), (q6, .inl (cyX X 0, (60, .inl (fun _ => 0))))]) : va_W) 6 216 49 [(0, .ref h)] [.ref q6, .ref h]
  refine c_put (ty := .array .int) (own := RX4) hX 49 6 rfl nI4_X4 tyX4 tyX4_ok nmX4 (by decide) wI4_38 rfl (Or.inr ⟨rfl, rfl⟩) (by decide +kernel) rfl rfl (Nat.le_of_ble_eq_true rfl) dX4_init_49 ?_
  show CJ X _ _ 1 (((h, .inr (4, [.ref q1, .ref q2, .ref q3, .int 0, .ref q4, .ref q5, .ref q6, .null, .int 0, .null, .null, .null, .int 0, .null, .null, .null, .int 0])) :: [(q1, .inl (cyX X 0, (12, .inl (fun _ => 0)))), (q2, .inl (cyX X 0, (12, .inl (fun _ => 0)))), (q3, .inl (cyX X 0, (12, .inl (fun _ => 0)))), (q4, .inl (cyX X 0, (60, .inl (fun _ => 0)))), (q5, .inl (cyX X 2, (60, .inl (fun _ => 0)))), (q6, .inl (cyX X 0, (60, .inl (fun _ => 0))))]) : va_W) 6 216 52 [(0, .ref h)] []
  refine c_aload hX 52 0 dX4_init_52 rfl rfl ?_
  refine c_bipush (v := 60) hX 53 dX4_init_53 (by decide) ?_
  refine c_newa (N := 60) (j := 0) (a0 := (60, .inl (fun _ => 0))) hX 55 wI4_31 rfl (fun _ => rfl) ra_i (fun _ => rfl) (by decide) (by decide) (Nat.le_of_ble_eq_true rfl) (Nat.le_of_ble_eq_true rfl) (Nat.le_of_ble_eq_true rfl) dX4_init_55 (fun q7 => ?_)
  show CJ X _ _ 1 (((h, .inr (4, [.ref q1, .ref q2, .ref q3, .int 0, .ref q4, .ref q5, .ref q6, .null, .int 0, .null, .null, .null, .int 0, .null, .null, .null, .int 0])) :: [(q1, .inl (cyX X 0, (12, .inl (fun _ => 0)))), (q2, .inl (cyX X 0, (12, .inl (fun _ => 0)))), (q3, .inl (cyX X 0, (12, .inl (fun _ => 0)))), (q4, .inl (cyX X 0, (60, .inl (fun _ => 0)))), (q5, .inl (cyX X 2, (60, .inl (fun _ => 0)))), (q6, .inl (cyX X 0, (60, .inl (fun _ => 0)))), (q7, .inl (cyX X 0, (60, .inl (fun _ => 0))))]) : va_W) 7 276 57 [(0, .ref h)] [.ref q7, .ref h]
  refine c_put (ty := .array .int) (own := RX4) hX 57 7 rfl nI4_X4 tyX4 tyX4_ok nmX4 (by decide) wI4_39 rfl (Or.inr ⟨rfl, rfl⟩) (by decide +kernel) rfl rfl (Nat.le_of_ble_eq_true rfl) dX4_init_57 ?_
  show CJ X _ _ 1 (((h, .inr (4, [.ref q1, .ref q2, .ref q3, .int 0, .ref q4, .ref q5, .ref q6, .ref q7, .int 0, .null, .null, .null, .int 0, .null, .null, .null, .int 0])) :: [(q1, .inl (cyX X 0, (12, .inl (fun _ => 0)))), (q2, .inl (cyX X 0, (12, .inl (fun _ => 0)))), (q3, .inl (cyX X 0, (12, .inl (fun _ => 0)))), (q4, .inl (cyX X 0, (60, .inl (fun _ => 0)))), (q5, .inl (cyX X 2, (60, .inl (fun _ => 0)))), (q6, .inl (cyX X 0, (60, .inl (fun _ => 0)))), (q7, .inl (cyX X 0, (60, .inl (fun _ => 0))))]) : va_W) 7 276 60 [(0, .ref h)] []
  refine c_aload hX 60 0 dX4_init_60 rfl rfl ?_
  refine c_bipush (v := 20) hX 61 dX4_init_61 (by decide) ?_
  refine c_newa (N := 20) (j := 0) (a0 := (20, .inl (fun _ => 0))) hX 63 wI4_31 rfl (fun _ => rfl) ra_i (fun _ => rfl) (by decide) (by decide) (Nat.le_of_ble_eq_true rfl) (Nat.le_of_ble_eq_true rfl) (Nat.le_of_ble_eq_true rfl) dX4_init_63 (fun q8 => ?_)
  show CJ X _ _ 1 (((h, .inr (4, [.ref q1, .ref q2, .ref q3, .int 0, .ref q4, .ref q5, .ref q6, .ref q7, .int 0, .null, .null, .null, .int 0, .null, .null, .null, .int 0])) :: [(q1, .inl (cyX X 0, (12, .inl (fun _ => 0)))), (q2, .inl (cyX X 0, (12, .inl (fun _ => 0)))), (q3, .inl (cyX X 0, (12, .inl (fun _ => 0)))), (q4, .inl (cyX X 0, (60, .inl (fun _ => 0)))), (q5, .inl (cyX X 2, (60, .inl (fun _ => 0)))), (q6, .inl (cyX X 0, (60, .inl (fun _ => 0)))), (q7, .inl (cyX X 0, (60, .inl (fun _ => 0)))), (q8, .inl (cyX X 0, (20, .inl (fun _ => 0))))]) : va_W) 8 296 65 [(0, .ref h)] [.ref q8, .ref h]
  refine c_put (ty := .array .int) (own := RX4) hX 65 9 rfl nI4_X4 tyX4 tyX4_ok nmX4 (by decide) wI4_40 rfl (Or.inr ⟨rfl, rfl⟩) (by decide +kernel) rfl rfl (Nat.le_of_ble_eq_true rfl) dX4_init_65 ?_
  show CJ X _ _ 1 (((h, .inr (4, [.ref q1, .ref q2, .ref q3, .int 0, .ref q4, .ref q5, .ref q6, .ref q7, .int 0, .ref q8, .null, .null, .int 0, .null, .null, .null, .int 0])) :: [(q1, .inl (cyX X 0, (12, .inl (fun _ => 0)))), (q2, .inl (cyX X 0, (12, .inl (fun _ => 0)))), (q3, .inl (cyX X 0, (12, .inl (fun _ => 0)))), (q4, .inl (cyX X 0, (60, .inl (fun _ => 0)))), (q5, .inl (cyX X 2, (60, .inl (fun _ => 0)))), (q6, .inl (cyX X 0, (60, .inl (fun _ => 0)))), (q7, .inl (cyX X 0, (60, .inl (fun _ => 0)))), (q8, .inl (cyX X 0, (20, .inl (fun _ => 0))))]) : va_W) 8 296 68 [(0, .ref h)] []
  refine c_aload hX 68 0 dX4_init_68 rfl rfl ?_
  refine c_bipush (v := 20) hX 69 dX4_init_69 (by decide) ?_
  refine c_newa (N := 20) (j := 0) (a0 := (20, .inl (fun _ => 0))) hX 71 wI4_31 rfl (fun _ => rfl) ra_i (fun _ => rfl) (by decide) (by decide) (Nat.le_of_ble_eq_true rfl) (Nat.le_of_ble_eq_true rfl) (Nat.le_of_ble_eq_true rfl) dX4_init_71 (fun q9 => ?_)
  show CJ X _ _ 1 (((h, .inr (4, [.ref q1, .ref q2, .ref q3, .int 0, .ref q4, .ref q5, .ref q6, .ref q7, .int 0, .ref q8, .null, .null, .int 0, .null, .null, .null, .int 0])) :: [(q1, .inl (cyX X 0, (12, .inl (fun _ => 0)))), (q2, .inl (cyX X 0, (12, .inl (fun _ => 0)))), (q3, .inl (cyX X 0, (12, .inl (fun _ => 0)))), (q4, .inl (cyX X 0, (60, .inl (fun _ => 0)))), (q5, .inl (cyX X 2, (60, .inl (fun _ => 0)))), (q6, .inl (cyX X 0, (60, .inl (fun _ => 0)))), (q7, .inl (cyX X 0, (60, .inl (fun _ => 0)))), (q8, .inl (cyX X 0, (20, .inl (fun _ => 0)))), (q9, .inl (cyX X 0, (20, .inl (fun _ => 0))))]) : va_W) 9 316 73 [(0, .ref h)] [.ref q9, .ref h]
  refine c_put (ty := .array .int) (own := RX4) hX 73 10 rfl nI4_X4 tyX4 tyX4_ok nmX4 (by decide) wI4_41 rfl (Or.inr ⟨rfl, rfl⟩) (by decide +kernel) rfl rfl (Nat.le_of_ble_eq_true rfl) dX4_init_73 ?_
  show CJ X _ _ 1 (((h, .inr (4, [.ref q1, .ref q2, .ref q3, .int 0, .ref q4, .ref q5, .ref q6, .ref q7, .int 0, .ref q8, .ref q9, .null, .int 0, .null, .null, .null, .int 0])) :: [(q1, .inl (cyX X 0, (12, .inl (fun _ => 0)))), (q2, .inl (cyX X 0, (12, .inl (fun _ => 0)))), (q3, .inl (cyX X 0, (12, .inl (fun _ => 0)))), (q4, .inl (cyX X 0, (60, .inl (fun _ => 0)))), (q5, .inl (cyX X 2, (60, .inl (fun _ => 0)))), (q6, .inl (cyX X 0, (60, .inl (fun _ => 0)))), (q7, .inl (cyX X 0, (60, .inl (fun _ => 0)))), (q8, .inl (cyX X 0, (20, .inl (fun _ => 0)))), (q9, .inl (cyX X 0, (20, .inl (fun _ => 0))))]) : va_W) 9 316 76 [(0, .ref h)] []
  refine c_aload hX 76 0 dX4_init_76 rfl rfl ?_
  refine c_bipush (v := 20) hX 77 dX4_init_77 (by decide) ?_
  refine c_newa (N := 20) (j := 0) (a0 := (20, .inl (fun _ => 0))) hX 79 wI4_31 rfl (fun _ => rfl) ra_i (fun _ => rfl) (by decide) (by decide) (Nat.le_of_ble_eq_true rfl) (Nat.le_of_ble_eq_true rfl) (Nat.le_of_ble_eq_true rfl) dX4_init_79 (fun q10 => ?_)
  show CJ X _ _ 1 (((h, .inr (4, [.ref q1, .ref q2, .ref q3, .int 0, .ref q4, .ref q5, .ref q6, .ref q7, .int 0, .ref q8, .ref q9, .null, .int 0, .null, .null, .null, .int 0])) :: [(q1, .inl (cyX X 0, (12, .inl (fun _ => 0)))), (q2, .inl (cyX X 0, (12, .inl (fun _ => 0)))), (q3, .inl (cyX X 0, (12, .inl (fun _ => 0)))), (q4, .inl (cyX X 0, (60, .inl (fun _ => 0)))), (q5, .inl (cyX X 2, (60, .inl (fun _ => 0)))), (q6, .inl (cyX X 0, (60, .inl (fun _ => 0)))), (q7, .inl (cyX X 0, (60, .inl (fun _ => 0)))), (q8, .inl (cyX X 0, (20, .inl (fun _ => 0)))), (q9, .inl (cyX X 0, (20, .inl (fun _ => 0)))), (q10, .inl (cyX X 0, (20, .inl (fun _ => 0))))]) : va_W) 10 336 81 [(0, .ref h)] [.ref q10, .ref h]
  refine c_put (ty := .array .int) (own := RX4) hX 81 11 rfl nI4_X4 tyX4 tyX4_ok nmX4 (by decide) wI4_42 rfl (Or.inr ⟨rfl, rfl⟩) (by decide +kernel) rfl rfl (Nat.le_of_ble_eq_true rfl) dX4_init_81 ?_
  show CJ X _ _ 1 (((h, .inr (4, [.ref q1, .ref q2, .ref q3, .int 0, .ref q4, .ref q5, .ref q6, .ref q7, .int 0, .ref q8, .ref q9, .ref q10, .int 0, .null, .null, .null, .int 0])) :: [(q1, .inl (cyX X 0, (12, .inl (fun _ => 0)))), (q2, .inl (cyX X 0, (12, .inl (fun _ => 0)))), (q3, .inl (cyX X 0, (12, .inl (fun _ => 0)))), (q4, .inl (cyX X 0, (60, .inl (fun _ => 0)))), (q5, .inl (cyX X 2, (60, .inl (fun _ => 0)))), (q6, .inl (cyX X 0, (60, .inl (fun _ => 0)))), (q7, .inl (cyX X 0, (60, .inl (fun _ => 0)))), (q8, .inl (cyX X 0, (20, .inl (fun _ => 0)))), (q9, .inl (cyX X 0, (20, .inl (fun _ => 0)))), (q10, .inl (cyX X 0, (20, .inl (fun _ => 0))))]) : va_W) 10 336 84 [(0, .ref h)] []
  refine c_aload hX 84 0 dX4_init_84 rfl rfl ?_
  refine c_bipush (v := 12) hX 85 dX4_init_85 (by decide) ?_
  refine c_newa (N := 12) (j := 0) (a0 := (12, .inl (fun _ => 0))) hX 87 wI4_31 rfl (fun _ => rfl) ra_i (fun _ => rfl) (by decide) (by decide) (Nat.le_of_ble_eq_true rfl) (Nat.le_of_ble_eq_true rfl) (Nat.le_of_ble_eq_true rfl) dX4_init_87 (fun q11 => ?_)
  show CJ X _ _ 1 (((h, .inr (4, [.ref q1, .ref q2, .ref q3, .int 0, .ref q4, .ref q5, .ref q6, .ref q7, .int 0, .ref q8, .ref q9, .ref q10, .int 0, .null, .null, .null, .int 0])) :: [(q1, .inl (cyX X 0, (12, .inl (fun _ => 0)))), (q2, .inl (cyX X 0, (12, .inl (fun _ => 0)))), (q3, .inl (cyX X 0, (12, .inl (fun _ => 0)))), (q4, .inl (cyX X 0, (60, .inl (fun _ => 0)))), (q5, .inl (cyX X 2, (60, .inl (fun _ => 0)))), (q6, .inl (cyX X 0, (60, .inl (fun _ => 0)))), (q7, .inl (cyX X 0, (60, .inl (fun _ => 0)))), (q8, .inl (cyX X 0, (20, .inl (fun _ => 0)))), (q9, .inl (cyX X 0, (20, .inl (fun _ => 0)))), (q10, .inl (cyX X 0, (20, .inl (fun _ => 0)))), (q11, .inl (cyX X 0, (12, .inl (fun _ => 0))))]) : va_W) 11 348 89 [(0, .ref h)] [.ref q11, .ref h]
  refine c_put (ty := .array .int) (own := RX4) hX 89 13 rfl nI4_X4 tyX4 tyX4_ok nmX4 (by decide) wI4_43 rfl (Or.inr ⟨rfl, rfl⟩) (by decide +kernel) rfl rfl (Nat.le_of_ble_eq_true rfl) dX4_init_89 ?_
  show CJ X _ _ 1 (((h, .inr (4, [.ref q1, .ref q2, .ref q3, .int 0, .ref q4, .ref q5, .ref q6, .ref q7, .int 0, .ref q8, .ref q9, .ref q10, .int 0, .ref q11, .null, .null, .int 0])) :: [(q1, .inl (cyX X 0, (12, .inl (fun _ => 0)))), (q2, .inl (cyX X 0, (12, .inl (fun _ => 0)))), (q3, .inl (cyX X 0, (12, .inl (fun _ => 0)))), (q4, .inl (cyX X 0, (60, .inl (fun _ => 0)))), (q5, .inl (cyX X 2, (60, .inl (fun _ => 0)))), (q6, .inl (cyX X 0, (60, .inl (fun _ => 0)))), (q7, .inl (cyX X 0, (60, .inl (fun _ => 0)))), (q8, .inl (cyX X 0, (20, .inl (fun _ => 0)))), (q9, .inl (cyX X 0, (20, .inl (fun _ => 0)))), (q10, .inl (cyX X 0, (20, .inl (fun _ => 0)))), (q11, .inl (cyX X 0, (12, .inl (fun _ => 0))))]) : va_W) 11 348 92 [(0, .ref h)] []
  refine c_aload hX 92 0 dX4_init_92 rfl rfl ?_
  refine c_bipush (v := 12) hX 93 dX4_init_93 (by decide) ?_
  refine c_newa (N := 12) (j := 0) (a0 := (12, .inl (fun _ => 0))) hX 95 wI4_31 rfl (fun _ => rfl) ra_i (fun _ => rfl) (by decide) (by decide) (Nat.le_of_ble_eq_true rfl) (Nat.le_of_ble_eq_true rfl) (Nat.le_of_ble_eq_true rfl) dX4_init_95 (fun q12 => ?_)
  show CJ X _ _ 1 (((h, .inr (4, [.ref q1, .ref q2, .ref q3, .int 0, .ref q4, .ref q5, .ref q6, .ref q7, .int 0, .ref q8, .ref q9, .ref q10, .int 0, .ref q11, .null, .null, .int 0])) :: [(q1, .inl (cyX X 0, (12, .inl (fun _ => 0)))), (q2, .inl (cyX X 0, (12, .inl (fun _ => 0)))), (q3, .inl (cyX X 0, (12, .inl (fun _ => 0)))), (q4, .inl (cyX X 0, (60, .inl (fun _ => 0)))), (q5, .inl (cyX X 2, (60, .inl (fun _ => 0)))), (q6, .inl (cyX X 0, (60, .inl (fun _ => 0)))), (q7, .inl (cyX X 0, (60, .inl (fun _ => 0)))), (q8, .inl (cyX X 0, (20, .inl (fun _ => 0)))), (q9, .inl (cyX X 0, (20, .inl (fun _ => 0)))), (q10, .inl (cyX X 0, (20, .inl (fun _ => 0)))), (q11, .inl (cyX X 0, (12, .inl (fun _ => 0)))), (q12, .inl (cyX X 0, (12, .inl (fun _ => 0))))]) : va_W) 12 360 97 [(0, .ref h)] [.ref q12, .ref h]
  refine c_put (ty := .array .int) (own := RX4) hX 97 14 rfl nI4_X4 tyX4 tyX4_ok nmX4 (by decide) wI4_44 rfl (Or.inr ⟨rfl, rfl⟩) (by decide +kernel) rfl rfl (Nat.le_of_ble_eq_true rfl) dX4_init_97 ?_
  show CJ X _ _ 1 (((h, .inr (4, [.ref q1, .ref q2, .ref q3, .int 0, .ref q4, .ref q5, .ref q6, .ref q7, .int 0, .ref q8, .ref q9, .ref q10, .int 0, .ref q11, .ref q12, .null, .int 0])) :: [(q1, .inl (cyX X 0, (12, .inl (fun _ => 0)))), (q2, .inl (cyX X 0, (12, .inl (fun _ => 0)))), (q3, .inl (cyX X 0, (12, .inl (fun _ => 0)))), (q4, .inl (cyX X 0, (60, .inl (fun _ => 0)))), (q5, .inl (cyX X 2, (60, .inl (fun _ => 0)))), (q6, .inl (cyX X 0, (60, .inl (fun _ => 0)))), (q7, .inl (cyX X 0, (60, .inl (fun _ => 0)))), (q8, .inl (cyX X 0, (20, .inl (fun _ => 0)))), (q9, .inl (cyX X 0, (20, .inl (fun _ => 0)))), (q10, .inl (cyX X 0, (20, .inl (fun _ => 0)))), (q11, .inl (cyX X 0, (12, .inl (fun _ => 0)))), (q12, .inl (cyX X 0, (12, .inl (fun _ => 0))))]) : va_W) 12 360 100 [(0, .ref h)] []
  refine c_aload hX 100 0 dX4_init_100 rfl rfl ?_
  refine c_bipush (v := 12) hX 101 dX4_init_101 (by decide) ?_
  refine c_newa (N := 12) (j := 0) (a0 := (12, .inl (fun _ => 0))) hX 103 wI4_31 rfl (fun _ => rfl) ra_i (fun _ => rfl) (by decide) (by decide) (Nat.le_of_ble_eq_true rfl) (Nat.le_of_ble_eq_true rfl) (Nat.le_of_ble_eq_true rfl) dX4_init_103 (fun q13 => ?_)
  show CJ X _ _ 1 (((h, .inr (4, [.ref q1, .ref q2, .ref q3, .int 0, .ref q4, .ref q5, .ref q6, .ref q7, .int 0, .ref q8, .ref q9, .ref q10, .int 0, .ref q11, .ref q12, .null, .int 0])) :: [(q1, .inl (cyX X 0, (12, .inl (fun _ => 0)))), (q2, .inl (cyX X 0, (12, .inl (fun _ => 0)))), (q3, .inl (cyX X 0, (12, .inl (fun _ => 0)))), (q4, .inl (cyX X 0, (60, .inl (fun _ => 0)))), (q5, .inl (cyX X 2, (60, .inl (fun _ => 0)))), (q6, .inl (cyX X 0, (60, .inl (fun _ => 0)))), (q7, .inl (cyX X 0, (60, .inl (fun _ => 0)))), (q8, .inl (cyX X 0, (20, .inl (fun _ => 0)))), (q9, .inl (cyX X 0, (20, .inl (fun _ => 0)))), (q10, .inl (cyX X 0, (20, .inl (fun _ => 0)))), (q11, .inl (cyX X 0, (12, .inl (fun _ => 0)))), (q12, .inl (cyX X 0, (12, .inl (fun _ => 0)))), (q13, .inl (cyX X 0, (12, .inl (fun _ => 0))))]) : va_W) 13 372 105 [(0, .ref h)] [.ref q13, .ref h]
  refine c_put (ty := .array .int) (own := RX4) hX 105 15 rfl nI4_X4 tyX4 tyX4_ok nmX4 (by decide) wI4_45 rfl (Or.inr ⟨rfl, rfl⟩) (by decide +kernel) rfl rfl (Nat.le_of_ble_eq_true rfl) dX4_init_105 ?_
  show CJ X _ _ 1 (((h, .inr (4, [.ref q1, .ref q2, .ref q3, .int 0, .ref q4, .ref q5, .ref q6, .ref q7, .int 0, .ref q8, .ref q9, .ref q10, .int 0, .ref q11, .ref q12, .ref q13, .int 0])) :: [(q1, .inl (cyX X 0, (12, .inl (fun _ => 0)))), (q2, .inl (cyX X 0, (12, .inl (fun _ => 0)))), (q3, .inl (cyX X 0, (12, .inl (fun _ => 0)))), (q4, .inl (cyX X 0, (60, .inl (fun _ => 0)))), (q5, .inl (cyX X 2, (60, .inl (fun _ => 0)))), (q6, .inl (cyX X 0, (60, .inl (fun _ => 0)))), (q7, .inl (cyX X 0, (60, .inl (fun _ => 0)))), (q8, .inl (cyX X 0, (20, .inl (fun _ => 0)))), (q9, .inl (cyX X 0, (20, .inl (fun _ => 0)))), (q10, .inl (cyX X 0, (20, .inl (fun _ => 0)))), (q11, .inl (cyX X 0, (12, .inl (fun _ => 0)))), (q12, .inl (cyX X 0, (12, .inl (fun _ => 0)))), (q13, .inl (cyX X 0, (12, .inl (fun _ => 0))))]) : va_W) 13 372 108 [(0, .ref h)] []
  exact c_ret hX 108 ⟨fun c _ => if c = 4 then h else if c = 20 then q1 else if c = 21 then q2 else if c = 22 then q3 else if c = 23 then q4 else if c = 24 then q5 else if c = 25 then q6 else if c = 26 then q7 else if c = 27 then q8 else if c = 28 then q9 else if c = 29 then q10 else if c = 30 then q11 else if c = 31 then q12 else if c = 32 then q13 else 0, List.forall_mem_cons.mpr ⟨rfl, fun _ h => absurd h List.not_mem_nil⟩, rfl⟩ (Nat.le_of_ble_eq_true rfl) (Nat.le_of_ble_eq_true rfl) dX4_init_108
theorem wI8_46 : Cond.methodLink RX8 3 objectInit ∈ wsX8_init := by decide +kernel
theorem wI8_47 : Cond.instanceMethod objectInit ∈ wsX8_init := by decide +kernel
theorem wI8_48 : Cond.code objectInit ⟨#[0xb1]⟩ 1 none ∈ wsX8_init := by decide +kernel
theorem wI8_49 : Cond.arrayClass .int ∈ wsX8_init := by decide +kernel
theorem nI8_X8 : ∀ w ∈ u_ws RX8 TX8 3, w ∈ wsX8_init := by decide +kernel
theorem wI8_50 : Cond.fieldLink RX8 9 "TwoTongues$Settlements" "sum" "[I" ∈ wsX8_init := by decide +kernel
theorem wI8_51 : Cond.fieldLink RX8 15 "TwoTongues$Settlements" "ratio" "[I" ∈ wsX8_init := by decide +kernel
def plI8 : List (Nat × Nat) := [(7, 0), (44, 0), (45, 0)]
set_option maxRecDepth 100000 in
set_option maxHeartbeats 1000000 in
theorem kI8 {l : Launch} {dC : Nat → ClassId} {dI : Nat → Nat → Nat} {cy : Nat → ClassId} (h : Nat) : CTI l dC dI cy yX8_init wsX8_init 1 12 2 16 h 7 [.null, .null, .int 0] [] (Pst cy plI8 [(7, 0, h)]) := by
  refine cti_of (by decide) rfl rfl (Nat.le_of_ble_eq_true rfl) rfl ?_
  intro X hcy hX
  subst hcy
  refine c_aload hX 0 0 dX8_init_0 rfl rfl ?_
  refine c_obj hX 1 wI8_46 wI8_47 wI8_48 dX8_init_1 (Nat.le_of_ble_eq_true rfl) (Nat.le_of_ble_eq_true rfl) ?_
  refine c_aload hX 4 0 dX8_init_4 rfl rfl ?_
  refine c_bipush (v := 8) hX 5 dX8_init_5 (by decide) ?_
  refine c_newa (N := 8) (j := 0) (a0 := (8, .inl (fun _ => 0))) hX 7 wI8_49 rfl (fun _ => rfl) ra_i (fun _ => rfl) (by decide) (by decide) (Nat.le_of_ble_eq_true rfl) (Nat.le_of_ble_eq_true rfl) (Nat.le_of_ble_eq_true rfl) dX8_init_7 (fun q1 => ?_)
  show CJ X _ _ 1 (((h, .inr (7, [.null, .null, .int 0])) :: [(q1, .inl (cyX X 0, (8, .inl (fun _ => 0))))]) : va_W) 1 8 9 [(0, .ref h)] [.ref q1, .ref h]
  refine c_put (ty := .array .int) (own := RX8) hX 9 0 rfl nI8_X8 tyX8 tyX8_ok nmX8 (by decide) wI8_50 rfl (Or.inr ⟨rfl, rfl⟩) (by decide +kernel) rfl rfl (Nat.le_of_ble_eq_true rfl) dX8_init_9 ?_
  show CJ X _ _ 1 (((h, .inr (7, [.ref q1, .null, .int 0])) :: [(q1, .inl (cyX X 0, (8, .inl (fun _ => 0))))]) : va_W) 1 8 12 [(0, .ref h)] []
  refine c_aload hX 12 0 dX8_init_12 rfl rfl ?_
  refine c_bipush (v := 8) hX 13 dX8_init_13 (by decide) ?_
  refine c_newa (N := 8) (j := 0) (a0 := (8, .inl (fun _ => 0))) hX 15 wI8_49 rfl (fun _ => rfl) ra_i (fun _ => rfl) (by decide) (by decide) (Nat.le_of_ble_eq_true rfl) (Nat.le_of_ble_eq_true rfl) (Nat.le_of_ble_eq_true rfl) dX8_init_15 (fun q2 => ?_)
  show CJ X _ _ 1 (((h, .inr (7, [.ref q1, .null, .int 0])) :: [(q1, .inl (cyX X 0, (8, .inl (fun _ => 0)))), (q2, .inl (cyX X 0, (8, .inl (fun _ => 0))))]) : va_W) 2 16 17 [(0, .ref h)] [.ref q2, .ref h]
  refine c_put (ty := .array .int) (own := RX8) hX 17 1 rfl nI8_X8 tyX8 tyX8_ok nmX8 (by decide) wI8_51 rfl (Or.inr ⟨rfl, rfl⟩) (by decide +kernel) rfl rfl (Nat.le_of_ble_eq_true rfl) dX8_init_17 ?_
  show CJ X _ _ 1 (((h, .inr (7, [.ref q1, .ref q2, .int 0])) :: [(q1, .inl (cyX X 0, (8, .inl (fun _ => 0)))), (q2, .inl (cyX X 0, (8, .inl (fun _ => 0))))]) : va_W) 2 16 20 [(0, .ref h)] []
  exact c_ret hX 20 ⟨fun c _ => if c = 7 then h else if c = 44 then q1 else if c = 45 then q2 else 0, List.forall_mem_cons.mpr ⟨rfl, fun _ h => absurd h List.not_mem_nil⟩, rfl⟩ (Nat.le_of_ble_eq_true rfl) (Nat.le_of_ble_eq_true rfl) dX8_init_20
theorem wI1_52 : Cond.methodLink RX1 3 objectInit ∈ wsX1_init := by decide +kernel
theorem wI1_53 : Cond.instanceMethod objectInit ∈ wsX1_init := by decide +kernel
theorem wI1_54 : Cond.code objectInit ⟨#[0xb1]⟩ 1 none ∈ wsX1_init := by decide +kernel
theorem wI1_55 : Cond.arrayClass .long ∈ wsX1_init := by decide +kernel
theorem nI1_X1 : ∀ w ∈ u_ws RX1 TX1 8, w ∈ wsX1_init := by decide +kernel
theorem wI1_56 : Cond.fieldLink RX1 9 "TwoTongues$Estate" "parts" "[J" ∈ wsX1_init := by decide +kernel
theorem wI1_57 : Cond.arrayClass .int ∈ wsX1_init := by decide +kernel
theorem wI1_58 : Cond.fieldLink RX1 15 "TwoTongues$Estate" "firstOf" "[I" ∈ wsX1_init := by decide +kernel
theorem wI1_59 : Cond.fieldLink RX1 19 "TwoTongues$Estate" "next" "[I" ∈ wsX1_init := by decide +kernel
theorem wI1_60 : Cond.fieldLink RX1 22 "TwoTongues$Estate" "value" "[J" ∈ wsX1_init := by decide +kernel
theorem wI1_61 : Cond.fieldLink RX1 25 "TwoTongues$Estate" "times" "[J" ∈ wsX1_init := by decide +kernel
theorem wI1_62 : Cond.fieldLink RX1 28 "TwoTongues$Estate" "people" "LTwoTongues$People;" ∈ wsX1_init := by decide +kernel
def plI1 : List (Nat × Nat) := [(1, 0), (18, 0), (81, 0), (82, 0), (83, 0), (84, 0)]
set_option maxRecDepth 100000 in
set_option maxHeartbeats 1000000 in
theorem kI1 {l : Launch} {dC : Nat → ClassId} {dI : Nat → Nat → Nat} {cy : Nat → ClassId} (h p : Nat) : CTI l dC dI cy yX1_init wsX1_init 1 12 5 156 h 1 [.null, .null, .long 0, .null, .null, .null, .null, .int 0] [.ref p] (Pst cy plI1 [(1, 0, h), (6, 0, p)]) := by
  refine cti_of (by decide) rfl rfl (Nat.le_of_ble_eq_true rfl) rfl ?_
  intro X hcy hX
  subst hcy
  refine c_aload hX 0 0 dX1_init_0 rfl rfl ?_
  refine c_obj hX 1 wI1_52 wI1_53 wI1_54 dX1_init_1 (Nat.le_of_ble_eq_true rfl) (Nat.le_of_ble_eq_true rfl) ?_
  refine c_aload hX 4 0 dX1_init_4 rfl rfl ?_
  refine c_bipush (v := 30) hX 5 dX1_init_5 (by decide) ?_
  refine c_newa (N := 30) (j := 3) (a0 := (30, .inr (.inl (fun _ => 0)))) hX 7 wI1_55 rfl (fun _ => rfl) ra_l (fun _ => rfl) (by decide) (by decide) (Nat.le_of_ble_eq_true rfl) (Nat.le_of_ble_eq_true rfl) (Nat.le_of_ble_eq_true rfl) dX1_init_7 (fun q1 => ?_)
  show CJ X _ _ 2 (((h, .inr (1, [.null, .null, .long 0, .null, .null, .null, .null, .int 0])) :: [(q1, .inl (cyX X 3, (30, .inr (.inl (fun _ => 0)))))]) : va_W) 1 30 9 [(0, .ref h), (1, .ref p)] [.ref q1, .ref h]
  refine c_put (ty := .array .long) (own := RX1) hX 9 1 rfl nI1_X1 tyX1 tyX1_ok nmX1 (by decide) wI1_56 rfl (Or.inr ⟨rfl, rfl⟩) (by decide +kernel) rfl rfl (Nat.le_of_ble_eq_true rfl) dX1_init_9 ?_
  show CJ X _ _ 2 (((h, .inr (1, [.null, .ref q1, .long 0, .null, .null, .null, .null, .int 0])) :: [(q1, .inl (cyX X 3, (30, .inr (.inl (fun _ => 0)))))]) : va_W) 1 30 12 [(0, .ref h), (1, .ref p)] []
  refine c_aload hX 12 0 dX1_init_12 rfl rfl ?_
  refine c_bipush (v := 30) hX 13 dX1_init_13 (by decide) ?_
  refine c_newa (N := 30) (j := 0) (a0 := (30, .inl (fun _ => 0))) hX 15 wI1_57 rfl (fun _ => rfl) ra_i (fun _ => rfl) (by decide) (by decide) (Nat.le_of_ble_eq_true rfl) (Nat.le_of_ble_eq_true rfl) (Nat.le_of_ble_eq_true rfl) dX1_init_15 (fun q2 => ?_)
  show CJ X _ _ 2 (((h, .inr (1, [.null, .ref q1, .long 0, .null, .null, .null, .null, .int 0])) :: [(q1, .inl (cyX X 3, (30, .inr (.inl (fun _ => 0))))), (q2, .inl (cyX X 0, (30, .inl (fun _ => 0))))]) : va_W) 2 60 17 [(0, .ref h), (1, .ref p)] [.ref q2, .ref h]
  refine c_put (ty := .array .int) (own := RX1) hX 17 3 rfl nI1_X1 tyX1 tyX1_ok nmX1 (by decide) wI1_58 rfl (Or.inr ⟨rfl, rfl⟩) (by decide +kernel) rfl rfl (Nat.le_of_ble_eq_true rfl) dX1_init_17 ?_
  show CJ X _ _ 2 (((h, .inr (1, [.null, .ref q1, .long 0, .ref q2, .null, .null, .null, .int 0])) :: [(q1, .inl (cyX X 3, (30, .inr (.inl (fun _ => 0))))), (q2, .inl (cyX X 0, (30, .inl (fun _ => 0))))]) : va_W) 2 60 20 [(0, .ref h), (1, .ref p)] []
  refine c_aload hX 20 0 dX1_init_20 rfl rfl ?_
  refine c_bipush (v := 32) hX 21 dX1_init_21 (by decide) ?_
  refine c_newa (N := 32) (j := 0) (a0 := (32, .inl (fun _ => 0))) hX 23 wI1_57 rfl (fun _ => rfl) ra_i (fun _ => rfl) (by decide) (by decide) (Nat.le_of_ble_eq_true rfl) (Nat.le_of_ble_eq_true rfl) (Nat.le_of_ble_eq_true rfl) dX1_init_23 (fun q3 => ?_)
  show CJ X _ _ 2 (((h, .inr (1, [.null, .ref q1, .long 0, .ref q2, .null, .null, .null, .int 0])) :: [(q1, .inl (cyX X 3, (30, .inr (.inl (fun _ => 0))))), (q2, .inl (cyX X 0, (30, .inl (fun _ => 0)))), (q3, .inl (cyX X 0, (32, .inl (fun _ => 0))))]) : va_W) 3 92 25 [(0, .ref h), (1, .ref p)] [.ref q3, .ref h]
  refine c_put (ty := .array .int) (own := RX1) hX 25 4 rfl nI1_X1 tyX1 tyX1_ok nmX1 (by decide) wI1_59 rfl (Or.inl rfl) (by decide +kernel) rfl rfl (Nat.le_of_ble_eq_true rfl) dX1_init_25 ?_
  show CJ X _ _ 2 (((h, .inr (1, [.null, .ref q1, .long 0, .ref q2, .ref q3, .null, .null, .int 0])) :: [(q1, .inl (cyX X 3, (30, .inr (.inl (fun _ => 0))))), (q2, .inl (cyX X 0, (30, .inl (fun _ => 0)))), (q3, .inl (cyX X 0, (32, .inl (fun _ => 0))))]) : va_W) 3 92 28 [(0, .ref h), (1, .ref p)] []
  refine c_aload hX 28 0 dX1_init_28 rfl rfl ?_
  refine c_bipush (v := 32) hX 29 dX1_init_29 (by decide) ?_
  refine c_newa (N := 32) (j := 3) (a0 := (32, .inr (.inl (fun _ => 0)))) hX 31 wI1_55 rfl (fun _ => rfl) ra_l (fun _ => rfl) (by decide) (by decide) (Nat.le_of_ble_eq_true rfl) (Nat.le_of_ble_eq_true rfl) (Nat.le_of_ble_eq_true rfl) dX1_init_31 (fun q4 => ?_)
  show CJ X _ _ 2 (((h, .inr (1, [.null, .ref q1, .long 0, .ref q2, .ref q3, .null, .null, .int 0])) :: [(q1, .inl (cyX X 3, (30, .inr (.inl (fun _ => 0))))), (q2, .inl (cyX X 0, (30, .inl (fun _ => 0)))), (q3, .inl (cyX X 0, (32, .inl (fun _ => 0)))), (q4, .inl (cyX X 3, (32, .inr (.inl (fun _ => 0)))))]) : va_W) 4 124 33 [(0, .ref h), (1, .ref p)] [.ref q4, .ref h]
  refine c_put (ty := .array .long) (own := RX1) hX 33 5 rfl nI1_X1 tyX1 tyX1_ok nmX1 (by decide) wI1_60 rfl (Or.inl rfl) (by decide +kernel) rfl rfl (Nat.le_of_ble_eq_true rfl) dX1_init_33 ?_
  show CJ X _ _ 2 (((h, .inr (1, [.null, .ref q1, .long 0, .ref q2, .ref q3, .ref q4, .null, .int 0])) :: [(q1, .inl (cyX X 3, (30, .inr (.inl (fun _ => 0))))), (q2, .inl (cyX X 0, (30, .inl (fun _ => 0)))), (q3, .inl (cyX X 0, (32, .inl (fun _ => 0)))), (q4, .inl (cyX X 3, (32, .inr (.inl (fun _ => 0)))))]) : va_W) 4 124 36 [(0, .ref h), (1, .ref p)] []
  refine c_aload hX 36 0 dX1_init_36 rfl rfl ?_
  refine c_bipush (v := 32) hX 37 dX1_init_37 (by decide) ?_
  refine c_newa (N := 32) (j := 3) (a0 := (32, .inr (.inl (fun _ => 0)))) hX 39 wI1_55 rfl (fun _ => rfl) ra_l (fun _ => rfl) (by decide) (by decide) (Nat.le_of_ble_eq_true rfl) (Nat.le_of_ble_eq_true rfl) (Nat.le_of_ble_eq_true rfl) dX1_init_39 (fun q5 => ?_)
  show CJ X _ _ 2 (((h, .inr (1, [.null, .ref q1, .long 0, .ref q2, .ref q3, .ref q4, .null, .int 0])) :: [(q1, .inl (cyX X 3, (30, .inr (.inl (fun _ => 0))))), (q2, .inl (cyX X 0, (30, .inl (fun _ => 0)))), (q3, .inl (cyX X 0, (32, .inl (fun _ => 0)))), (q4, .inl (cyX X 3, (32, .inr (.inl (fun _ => 0))))), (q5, .inl (cyX X 3, (32, .inr (.inl (fun _ => 0)))))]) : va_W) 5 156 41 [(0, .ref h), (1, .ref p)] [.ref q5, .ref h]
  refine c_put (ty := .array .long) (own := RX1) hX 41 6 rfl nI1_X1 tyX1 tyX1_ok nmX1 (by decide) wI1_61 rfl (Or.inl rfl) (by decide +kernel) rfl rfl (Nat.le_of_ble_eq_true rfl) dX1_init_41 ?_
  show CJ X _ _ 2 (((h, .inr (1, [.null, .ref q1, .long 0, .ref q2, .ref q3, .ref q4, .ref q5, .int 0])) :: [(q1, .inl (cyX X 3, (30, .inr (.inl (fun _ => 0))))), (q2, .inl (cyX X 0, (30, .inl (fun _ => 0)))), (q3, .inl (cyX X 0, (32, .inl (fun _ => 0)))), (q4, .inl (cyX X 3, (32, .inr (.inl (fun _ => 0))))), (q5, .inl (cyX X 3, (32, .inr (.inl (fun _ => 0)))))]) : va_W) 5 156 44 [(0, .ref h), (1, .ref p)] []
  refine c_aload hX 44 0 dX1_init_44 rfl rfl ?_
  refine c_aload hX 45 1 dX1_init_45 rfl rfl ?_
  refine c_put (ty := .object "TwoTongues$People") (own := RX1) hX 46 0 rfl nI1_X1 tyX1 tyX1_ok nmX1 (by decide) wI1_62 rfl (Or.inr ⟨rfl, rfl⟩) (by decide +kernel) rfl rfl (Nat.le_of_ble_eq_true rfl) dX1_init_46 ?_
  show CJ X _ _ 2 (((h, .inr (1, [.ref p, .ref q1, .long 0, .ref q2, .ref q3, .ref q4, .ref q5, .int 0])) :: [(q1, .inl (cyX X 3, (30, .inr (.inl (fun _ => 0))))), (q2, .inl (cyX X 0, (30, .inl (fun _ => 0)))), (q3, .inl (cyX X 0, (32, .inl (fun _ => 0)))), (q4, .inl (cyX X 3, (32, .inr (.inl (fun _ => 0))))), (q5, .inl (cyX X 3, (32, .inr (.inl (fun _ => 0)))))]) : va_W) 5 156 49 [(0, .ref h), (1, .ref p)] []
  exact c_ret hX 49 ⟨fun c _ => if c = 1 then h else if c = 18 then q1 else if c = 81 then q2 else if c = 82 then q3 else if c = 83 then q4 else if c = 84 then q5 else if c = 6 then p else 0, List.forall_mem_cons.mpr ⟨rfl, List.forall_mem_cons.mpr ⟨rfl, fun _ h => absurd h List.not_mem_nil⟩⟩, rfl⟩ (Nat.le_of_ble_eq_true rfl) (Nat.le_of_ble_eq_true rfl) dX1_init_49
theorem wI5_63 : Cond.methodLink RX5 3 objectInit ∈ wsX5_init := by decide +kernel
theorem wI5_64 : Cond.instanceMethod objectInit ∈ wsX5_init := by decide +kernel
theorem wI5_65 : Cond.code objectInit ⟨#[0xb1]⟩ 1 none ∈ wsX5_init := by decide +kernel
theorem wI5_66 : Cond.arrayClass .int ∈ wsX5_init := by decide +kernel
theorem nI5_X2 : ∀ w ∈ u_ws RX2 TX2 5, w ∈ wsX5_init := by decide +kernel
theorem wI5_67 : Cond.fieldLink RX5 9 "TwoTongues$Order" "rest" "[I" ∈ wsX5_init := by decide +kernel
theorem wI5_68 : Cond.fieldLink RX5 15 "TwoTongues$Order" "claims" "LTwoTongues$Claims;" ∈ wsX5_init := by decide +kernel
def PoOh (cy : Nat → ClassId) (h cl : Nat) (w : va_W) : Prop := ∃ q : Nat, w = (h, .inr (2, [.ref cl, .ref q, .int 0, .null, .int 0])) :: [(q, .inl (cy 0, (512, .inl (fun _ => 0))))]
set_option maxRecDepth 100000 in
set_option maxHeartbeats 1000000 in
theorem kI5h {l : Launch} {dC : Nat → ClassId} {dI : Nat → Nat → Nat} {cy : Nat → ClassId} (h cl : Nat) : CTI l dC dI cy yX5_init wsX5_init 1 12 1 512 h 2 [.null, .null, .int 0, .null, .int 0] [.ref cl] (PoOh cy h cl) := by
  refine cti_of (by decide) rfl rfl (Nat.le_of_ble_eq_true rfl) rfl ?_
  intro X hcy hX
  subst hcy
  refine c_aload hX 0 0 dX5_init_0 rfl rfl ?_
  refine c_obj hX 1 wI5_63 wI5_64 wI5_65 dX5_init_1 (Nat.le_of_ble_eq_true rfl) (Nat.le_of_ble_eq_true rfl) ?_
  refine c_aload hX 4 0 dX5_init_4 rfl rfl ?_
  refine c_sipush (v := 512) hX 5 dX5_init_5 (by decide) ?_
  refine c_newa (N := 512) (j := 0) (a0 := (512, .inl (fun _ => 0))) hX 8 wI5_66 rfl (fun _ => rfl) ra_i (fun _ => rfl) (by decide) (by decide) (Nat.le_of_ble_eq_true rfl) (Nat.le_of_ble_eq_true rfl) (Nat.le_of_ble_eq_true rfl) dX5_init_8 (fun q1 => ?_)
  show CJ X _ _ 2 (((h, .inr (2, [.null, .null, .int 0, .null, .int 0])) :: [(q1, .inl (cyX X 0, (512, .inl (fun _ => 0))))]) : va_W) 1 512 10 [(0, .ref h), (1, .ref cl)] [.ref q1, .ref h]
  refine c_put (ty := .array .int) (own := RX5) hX 10 1 rfl nI5_X2 tyX2 tyX2_ok nmX2 (by decide) wI5_67 rfl (Or.inr ⟨rfl, rfl⟩) (by decide +kernel) rfl rfl (Nat.le_of_ble_eq_true rfl) dX5_init_10 ?_
  show CJ X _ _ 2 (((h, .inr (2, [.null, .ref q1, .int 0, .null, .int 0])) :: [(q1, .inl (cyX X 0, (512, .inl (fun _ => 0))))]) : va_W) 1 512 13 [(0, .ref h), (1, .ref cl)] []
  refine c_aload hX 13 0 dX5_init_13 rfl rfl ?_
  refine c_aload hX 14 1 dX5_init_14 rfl rfl ?_
  refine c_put (ty := .object "TwoTongues$Claims") (own := RX5) hX 15 0 rfl nI5_X2 tyX2 tyX2_ok nmX2 (by decide) wI5_68 rfl (Or.inr ⟨rfl, rfl⟩) (by decide +kernel) rfl rfl (Nat.le_of_ble_eq_true rfl) dX5_init_15 ?_
  show CJ X _ _ 2 (((h, .inr (2, [.ref cl, .ref q1, .int 0, .null, .int 0])) :: [(q1, .inl (cyX X 0, (512, .inl (fun _ => 0))))]) : va_W) 1 512 18 [(0, .ref h), (1, .ref cl)] []
  exact c_ret hX 18 ⟨q1, rfl⟩ (Nat.le_of_ble_eq_true rfl) (Nat.le_of_ble_eq_true rfl) dX5_init_18
theorem wI2_69 : Cond.methodLink RX2 1 yX5_init ∈ wsX2_init := by decide +kernel
theorem wI2_70 : Cond.initialized RX5 ∈ wsX2_init := by decide +kernel
theorem wI2_71 : Cond.instanceMethod yX5_init ∈ wsX2_init := by decide +kernel
theorem nI2_X2 : ∀ w ∈ u_ws RX2 TX2 5, w ∈ wsX2_init := by decide +kernel
theorem wI2_72 : Cond.fieldLink RX2 7 "TwoTongues$Hearings" "people" "LTwoTongues$People;" ∈ wsX2_init := by decide +kernel
def plI2 : List (Nat × Nat) := [(2, 0), (19, 0)]
set_option maxRecDepth 100000 in
set_option maxHeartbeats 1000000 in
theorem kI2 {l : Launch} {dC : Nat → ClassId} {dI : Nat → Nat → Nat} {cy : Nat → ClassId} (h cl pe : Nat) : CTI l dC dI cy yX2_init wsX2_init 2 33 1 512 h 2 [.null, .null, .int 0, .null, .int 0] [.ref cl, .ref pe] (Pst cy plI2 [(2, 0, h), (0, 0, cl), (6, 0, pe)]) := by
  refine cti_of (by decide) rfl rfl (Nat.le_of_ble_eq_true rfl) rfl ?_
  intro X hcy hX
  subst hcy
  refine c_aload hX 0 0 dX2_init_0 rfl rfl ?_
  refine c_aload hX 1 1 dX2_init_1 rfl rfl ?_
  refine c_call (As := [.ref cl]) (st := []) (ws := []) hX 2 (kI5h h cl) gX2_init_X5_init rfl (Or.inl wI2_69) wI2_70 wI2_71 rfl eI5 ⟨Nat.le_of_ble_eq_true rfl, Nat.le_of_ble_eq_true rfl⟩ rfl rfl (Nat.le_of_ble_eq_true rfl) dX2_init_2 (Nat.le_of_ble_eq_true rfl) (Nat.le_of_ble_eq_true rfl) (fun w hw => ?_)
  obtain ⟨q1, rfl⟩ := hw
  show CJ X _ _ 3 (((h, .inr (2, [.ref cl, .ref q1, .int 0, .null, .int 0])) :: [(q1, .inl (cyX X 0, (512, .inl (fun _ => 0))))]) : va_W) 1 512 5 [(0, .ref h), (1, .ref cl), (2, .ref pe)] []
  refine c_aload hX 5 0 dX2_init_5 rfl rfl ?_
  refine c_aload hX 6 2 dX2_init_6 rfl rfl ?_
  refine c_put (ty := .object "TwoTongues$People") (own := RX2) hX 7 3 rfl nI2_X2 tyX2 tyX2_ok nmX2 (by decide) wI2_72 rfl (Or.inr ⟨rfl, rfl⟩) (by decide +kernel) rfl rfl (Nat.le_of_ble_eq_true rfl) dX2_init_7 ?_
  show CJ X _ _ 3 (((h, .inr (2, [.ref cl, .ref q1, .int 0, .ref pe, .int 0])) :: [(q1, .inl (cyX X 0, (512, .inl (fun _ => 0))))]) : va_W) 1 512 10 [(0, .ref h), (1, .ref cl), (2, .ref pe)] []
  exact c_ret hX 10 ⟨fun c _ => if c = 2 then h else if c = 19 then q1 else if c = 0 then cl else if c = 6 then pe else 0, List.forall_mem_cons.mpr ⟨rfl, List.forall_mem_cons.mpr ⟨rfl, List.forall_mem_cons.mpr ⟨rfl, fun _ h => absurd h List.not_mem_nil⟩⟩⟩, rfl⟩ (Nat.le_of_ble_eq_true rfl) (Nat.le_of_ble_eq_true rfl) dX2_init_10
theorem nI5_X6 : ∀ w ∈ u_ws RX6 TX6 4, w ∈ wsX5_init := by decide +kernel
def PoOp (cy : Nat → ClassId) (h cl : Nat) (w : va_W) : Prop := ∃ q : Nat, w = (h, .inr (5, [.ref cl, .ref q, .int 0, .int 0])) :: [(q, .inl (cy 0, (512, .inl (fun _ => 0))))]
set_option maxRecDepth 100000 in
set_option maxHeartbeats 1000000 in
theorem kI5p {l : Launch} {dC : Nat → ClassId} {dI : Nat → Nat → Nat} {cy : Nat → ClassId} (h cl : Nat) : CTI l dC dI cy yX5_init wsX5_init 1 12 1 512 h 5 [.null, .null, .int 0, .int 0] [.ref cl] (PoOp cy h cl) := by
  refine cti_of (by decide) rfl rfl (Nat.le_of_ble_eq_true rfl) rfl ?_
  intro X hcy hX
  subst hcy
  refine c_aload hX 0 0 dX5_init_0 rfl rfl ?_
  refine c_obj hX 1 wI5_63 wI5_64 wI5_65 dX5_init_1 (Nat.le_of_ble_eq_true rfl) (Nat.le_of_ble_eq_true rfl) ?_
  refine c_aload hX 4 0 dX5_init_4 rfl rfl ?_
  refine c_sipush (v := 512) hX 5 dX5_init_5 (by decide) ?_
  refine c_newa (N := 512) (j := 0) (a0 := (512, .inl (fun _ => 0))) hX 8 wI5_66 rfl (fun _ => rfl) ra_i (fun _ => rfl) (by decide) (by decide) (Nat.le_of_ble_eq_true rfl) (Nat.le_of_ble_eq_true rfl) (Nat.le_of_ble_eq_true rfl) dX5_init_8 (fun q1 => ?_)
  show CJ X _ _ 2 (((h, .inr (5, [.null, .null, .int 0, .int 0])) :: [(q1, .inl (cyX X 0, (512, .inl (fun _ => 0))))]) : va_W) 1 512 10 [(0, .ref h), (1, .ref cl)] [.ref q1, .ref h]
  refine c_put (ty := .array .int) (own := RX5) hX 10 1 rfl nI5_X6 tyX6 tyX6_ok nmX6 (by decide) wI5_67 rfl (Or.inr ⟨rfl, rfl⟩) (by decide +kernel) rfl rfl (Nat.le_of_ble_eq_true rfl) dX5_init_10 ?_
  show CJ X _ _ 2 (((h, .inr (5, [.null, .ref q1, .int 0, .int 0])) :: [(q1, .inl (cyX X 0, (512, .inl (fun _ => 0))))]) : va_W) 1 512 13 [(0, .ref h), (1, .ref cl)] []
  refine c_aload hX 13 0 dX5_init_13 rfl rfl ?_
  refine c_aload hX 14 1 dX5_init_14 rfl rfl ?_
  refine c_put (ty := .object "TwoTongues$Claims") (own := RX5) hX 15 0 rfl nI5_X6 tyX6 tyX6_ok nmX6 (by decide) wI5_68 rfl (Or.inr ⟨rfl, rfl⟩) (by decide +kernel) rfl rfl (Nat.le_of_ble_eq_true rfl) dX5_init_15 ?_
  show CJ X _ _ 2 (((h, .inr (5, [.ref cl, .ref q1, .int 0, .int 0])) :: [(q1, .inl (cyX X 0, (512, .inl (fun _ => 0))))]) : va_W) 1 512 18 [(0, .ref h), (1, .ref cl)] []
  exact c_ret hX 18 ⟨q1, rfl⟩ (Nat.le_of_ble_eq_true rfl) (Nat.le_of_ble_eq_true rfl) dX5_init_18
theorem wI6_73 : Cond.methodLink RX6 1 yX5_init ∈ wsX6_init := by decide +kernel
theorem wI6_74 : Cond.initialized RX5 ∈ wsX6_init := by decide +kernel
theorem wI6_75 : Cond.instanceMethod yX5_init ∈ wsX6_init := by decide +kernel
theorem nI6_X6 : ∀ w ∈ u_ws RX6 TX6 4, w ∈ wsX6_init := by decide +kernel
theorem wI6_76 : Cond.fieldLink RX6 7 "TwoTongues$Payments" "coin" "I" ∈ wsX6_init := by decide +kernel
def plI6 : List (Nat × Nat) := [(5, 0), (33, 0)]
set_option maxRecDepth 100000 in
set_option maxHeartbeats 1000000 in
theorem kI6 {l : Launch} {dC : Nat → ClassId} {dI : Nat → Nat → Nat} {cy : Nat → ClassId} (h cl : Nat) : CTI l dC dI cy yX6_init wsX6_init 2 33 1 512 h 5 [.null, .null, .int 0, .int 0] [.ref cl] (Pst cy plI6 [(5, 0, h), (0, 0, cl)]) := by
  refine cti_of (by decide) rfl rfl (Nat.le_of_ble_eq_true rfl) rfl ?_
  intro X hcy hX
  subst hcy
  refine c_aload hX 0 0 dX6_init_0 rfl rfl ?_
  refine c_aload hX 1 1 dX6_init_1 rfl rfl ?_
  refine c_call (As := [.ref cl]) (st := []) (ws := []) hX 2 (kI5p h cl) gX6_init_X5_init rfl (Or.inl wI6_73) wI6_74 wI6_75 rfl eI5 ⟨Nat.le_of_ble_eq_true rfl, Nat.le_of_ble_eq_true rfl⟩ rfl rfl (Nat.le_of_ble_eq_true rfl) dX6_init_2 (Nat.le_of_ble_eq_true rfl) (Nat.le_of_ble_eq_true rfl) (fun w hw => ?_)
  obtain ⟨q1, rfl⟩ := hw
  show CJ X _ _ 2 (((h, .inr (5, [.ref cl, .ref q1, .int 0, .int 0])) :: [(q1, .inl (cyX X 0, (512, .inl (fun _ => 0))))]) : va_W) 1 512 5 [(0, .ref h), (1, .ref cl)] []
  refine c_aload hX 5 0 dX6_init_5 rfl rfl ?_
  refine c_iconst (v := 1) hX 6 dX6_init_6 (by decide) ?_
  refine c_put (ty := .int) (own := RX6) hX 7 3 rfl nI6_X6 tyX6 tyX6_ok nmX6 (by decide) wI6_76 rfl (Or.inl rfl) (by decide +kernel) rfl rfl (Nat.le_of_ble_eq_true rfl) dX6_init_7 ?_
  show CJ X _ _ 2 (((h, .inr (5, [.ref cl, .ref q1, .int 0, .int 1])) :: [(q1, .inl (cyX X 0, (512, .inl (fun _ => 0))))]) : va_W) 1 512 10 [(0, .ref h), (1, .ref cl)] []
  exact c_ret hX 10 ⟨fun c _ => if c = 5 then h else if c = 33 then q1 else if c = 0 then cl else 0, List.forall_mem_cons.mpr ⟨rfl, List.forall_mem_cons.mpr ⟨rfl, fun _ h => absurd h List.not_mem_nil⟩⟩, rfl⟩ (Nat.le_of_ble_eq_true rfl) (Nat.le_of_ble_eq_true rfl) dX6_init_10
theorem wI9_77 : Cond.methodLink RX9 3 objectInit ∈ wsX9_init := by decide +kernel
theorem wI9_78 : Cond.instanceMethod objectInit ∈ wsX9_init := by decide +kernel
theorem wI9_79 : Cond.code objectInit ⟨#[0xb1]⟩ 1 none ∈ wsX9_init := by decide +kernel
theorem wI9_80 : Cond.arrayClass .byte ∈ wsX9_init := by decide +kernel
theorem nI9_X9 : ∀ w ∈ u_ws RX9 TX9 4, w ∈ wsX9_init := by decide +kernel
theorem wI9_81 : Cond.fieldLink RX9 9 "TwoTongues$Text" "bytes" "[B" ∈ wsX9_init := by decide +kernel
theorem wI9_82 : Cond.arrayClass .int ∈ wsX9_init := by decide +kernel
theorem wI9_83 : Cond.fieldLink RX9 15 "TwoTongues$Text" "numbers" "[I" ∈ wsX9_init := by decide +kernel
theorem nI9_X3 : ∀ w ∈ u_ws RX3 TX3 6, w ∈ wsX9_init := by decide +kernel
theorem wI9_84 : Cond.classLink RX9 19 RX3 ∈ wsX9_init := by decide +kernel
theorem wI9_85 : Cond.instantiable RX3 6 ∈ wsX9_init := by decide +kernel
theorem wI9_86 : Cond.initialized RX3 ∈ wsX9_init := by decide +kernel
theorem wI9_87 : Cond.instanceMethod yX3_init ∈ wsX9_init := by decide +kernel
theorem wI9_88 : Cond.fieldLink RX9 22 "TwoTongues$Text" "probe" "LTwoTongues$Item;" ∈ wsX9_init := by decide +kernel
def plI9_0 : List (Nat × Nat) := [(8, 0), (46, 0), (47, 0), (3, 68)]
set_option maxRecDepth 100000 in
set_option maxHeartbeats 1000000 in
theorem kI9_0 {l : Launch} {dC : Nat → ClassId} {dI : Nat → Nat → Nat} {cy : Nat → ClassId} (h : Nat) : CTI l dC dI cy yX9_init wsX9_init 2 32 3 251 h 8 [.null, .int 0, .null, .null] [] (Pst cy plI9_0 [(8, 0, h)]) := by
  refine cti_of (by decide) rfl rfl (Nat.le_of_ble_eq_true rfl) rfl ?_
  intro X hcy hX
  subst hcy
  refine c_aload hX 0 0 dX9_init_0 rfl rfl ?_
  refine c_obj hX 1 wI9_77 wI9_78 wI9_79 dX9_init_1 (Nat.le_of_ble_eq_true rfl) (Nat.le_of_ble_eq_true rfl) ?_
  refine c_aload hX 4 0 dX9_init_4 rfl rfl ?_
  refine c_sipush (v := 240) hX 5 dX9_init_5 (by decide) ?_
  refine c_newa (N := 240) (j := 1) (a0 := (240, .inl (fun _ => 0))) hX 8 wI9_80 rfl (fun _ => rfl) ra_b (fun _ => rfl) (by decide) (by decide) (Nat.le_of_ble_eq_true rfl) (Nat.le_of_ble_eq_true rfl) (Nat.le_of_ble_eq_true rfl) dX9_init_8 (fun q1 => ?_)
  show CJ X _ _ 1 (((h, .inr (8, [.null, .int 0, .null, .null])) :: [(q1, .inl (cyX X 1, (240, .inl (fun _ => 0))))]) : va_W) 1 240 10 [(0, .ref h)] [.ref q1, .ref h]
  refine c_put (ty := .array .byte) (own := RX9) hX 10 0 rfl nI9_X9 tyX9 tyX9_ok nmX9 (by decide) wI9_81 rfl (Or.inr ⟨rfl, rfl⟩) (by decide +kernel) rfl rfl (Nat.le_of_ble_eq_true rfl) dX9_init_10 ?_
  show CJ X _ _ 1 (((h, .inr (8, [.ref q1, .int 0, .null, .null])) :: [(q1, .inl (cyX X 1, (240, .inl (fun _ => 0))))]) : va_W) 1 240 13 [(0, .ref h)] []
  refine c_aload hX 13 0 dX9_init_13 rfl rfl ?_
  refine c_iconst (v := 5) hX 14 dX9_init_14 (by decide) ?_
  refine c_newa (N := 5) (j := 0) (a0 := (5, .inl (fun _ => 0))) hX 15 wI9_82 rfl (fun _ => rfl) ra_i (fun _ => rfl) (by decide) (by decide) (Nat.le_of_ble_eq_true rfl) (Nat.le_of_ble_eq_true rfl) (Nat.le_of_ble_eq_true rfl) dX9_init_15 (fun q2 => ?_)
  show CJ X _ _ 1 (((h, .inr (8, [.ref q1, .int 0, .null, .null])) :: [(q1, .inl (cyX X 1, (240, .inl (fun _ => 0)))), (q2, .inl (cyX X 0, (5, .inl (fun _ => 0))))]) : va_W) 2 245 17 [(0, .ref h)] [.ref q2, .ref h]
  refine c_put (ty := .array .int) (own := RX9) hX 17 2 rfl nI9_X9 tyX9 tyX9_ok nmX9 (by decide) wI9_83 rfl (Or.inr ⟨rfl, rfl⟩) (by decide +kernel) rfl rfl (Nat.le_of_ble_eq_true rfl) dX9_init_17 ?_
  show CJ X _ _ 1 (((h, .inr (8, [.ref q1, .int 0, .ref q2, .null])) :: [(q1, .inl (cyX X 1, (240, .inl (fun _ => 0)))), (q2, .inl (cyX X 0, (5, .inl (fun _ => 0))))]) : va_W) 2 245 20 [(0, .ref h)] []
  refine c_aload hX 20 0 dX9_init_20 rfl rfl ?_
  refine c_new (fs := [.int 0, .int 0, .int 0, .int 0, .int 0, .int 0]) hX 21 (ci := 3) rfl nI9_X3 tyX3 tyX3_ok wI9_84 wI9_85 wI9_86 dfX3 (Nat.le_of_ble_eq_true rfl) (Nat.le_of_ble_eq_true rfl) dX9_init_21 (fun q3 => ?_)
  show CJ X _ _ 1 (((h, .inr (8, [.ref q1, .int 0, .ref q2, .null])) :: [(q1, .inl (cyX X 1, (240, .inl (fun _ => 0)))), (q2, .inl (cyX X 0, (5, .inl (fun _ => 0)))), (q3, .inr (3, [.int 0, .int 0, .int 0, .int 0, .int 0, .int 0]))]) : va_W) 3 251 24 [(0, .ref h)] [.ref q3, .ref h]
  refine c_dup hX 24 dX9_init_24 ?_
  show CJ X _ _ 1 (((h, .inr (8, [.ref q1, .int 0, .ref q2, .null])) :: [(q1, .inl (cyX X 1, (240, .inl (fun _ => 0)))), (q2, .inl (cyX X 0, (5, .inl (fun _ => 0))))]) ++ [(q3, .inr (3, [.int 0, .int 0, .int 0, .int 0, .int 0, .int 0]))] : va_W) 3 251 25 [(0, .ref h)] [.ref q3, .ref q3, .ref h]
  refine c_call (As := []) (st := [.ref q3, .ref h]) (ws := ((h, .inr (8, [.ref q1, .int 0, .ref q2, .null])) :: [(q1, .inl (cyX X 1, (240, .inl (fun _ => 0)))), (q2, .inl (cyX X 0, (5, .inl (fun _ => 0))))])) hX 25 (kI3 q3) gX9_init_X3_init_n21 rfl (Or.inr (by decide +kernel)) wI9_86 wI9_87 rfl eI3 ⟨Nat.le_of_ble_eq_true rfl, Nat.le_of_ble_eq_true rfl⟩ rfl rfl (Nat.le_of_ble_eq_true rfl) dX9_init_25 (Nat.le_of_ble_eq_true rfl) (Nat.le_of_ble_eq_true rfl) (fun w hw => ?_)
  subst hw
  show CJ X _ _ 1 (((h, .inr (8, [.ref q1, .int 0, .ref q2, .null])) :: [(q1, .inl (cyX X 1, (240, .inl (fun _ => 0)))), (q2, .inl (cyX X 0, (5, .inl (fun _ => 0)))), (q3, .inr (3, [.int 0, .int 0, .int 0, .int 0, .int 0, .int 0]))]) : va_W) 3 251 28 [(0, .ref h)] [.ref q3, .ref h]
  refine c_put (ty := .object "TwoTongues$Item") (own := RX9) hX 28 3 rfl nI9_X9 tyX9 tyX9_ok nmX9 (by decide) wI9_88 rfl (Or.inr ⟨rfl, rfl⟩) (by decide +kernel) rfl rfl (Nat.le_of_ble_eq_true rfl) dX9_init_28 ?_
  show CJ X _ _ 1 (((h, .inr (8, [.ref q1, .int 0, .ref q2, .ref q3])) :: [(q1, .inl (cyX X 1, (240, .inl (fun _ => 0)))), (q2, .inl (cyX X 0, (5, .inl (fun _ => 0)))), (q3, .inr (3, [.int 0, .int 0, .int 0, .int 0, .int 0, .int 0]))]) : va_W) 3 251 31 [(0, .ref h)] []
  exact c_ret hX 31 ⟨fun c _ => if c = 8 then h else if c = 46 then q1 else if c = 47 then q2 else if c = 3 then q3 else 0, List.forall_mem_cons.mpr ⟨rfl, fun _ h => absurd h List.not_mem_nil⟩, rfl⟩ (Nat.le_of_ble_eq_true rfl) (Nat.le_of_ble_eq_true rfl) dX9_init_31
def plI9_1 : List (Nat × Nat) := [(8, 1), (46, 1), (47, 1), (3, 69)]
set_option maxRecDepth 100000 in
set_option maxHeartbeats 1000000 in
theorem kI9_1 {l : Launch} {dC : Nat → ClassId} {dI : Nat → Nat → Nat} {cy : Nat → ClassId} (h : Nat) : CTI l dC dI cy yX9_init wsX9_init 2 32 3 251 h 8 [.null, .int 0, .null, .null] [] (Pst cy plI9_1 [(8, 1, h)]) := by
  refine cti_of (by decide) rfl rfl (Nat.le_of_ble_eq_true rfl) rfl ?_
  intro X hcy hX
  subst hcy
  refine c_aload hX 0 0 dX9_init_0 rfl rfl ?_
  refine c_obj hX 1 wI9_77 wI9_78 wI9_79 dX9_init_1 (Nat.le_of_ble_eq_true rfl) (Nat.le_of_ble_eq_true rfl) ?_
  refine c_aload hX 4 0 dX9_init_4 rfl rfl ?_
  refine c_sipush (v := 240) hX 5 dX9_init_5 (by decide) ?_
  refine c_newa (N := 240) (j := 1) (a0 := (240, .inl (fun _ => 0))) hX 8 wI9_80 rfl (fun _ => rfl) ra_b (fun _ => rfl) (by decide) (by decide) (Nat.le_of_ble_eq_true rfl) (Nat.le_of_ble_eq_true rfl) (Nat.le_of_ble_eq_true rfl) dX9_init_8 (fun q1 => ?_)
  show CJ X _ _ 1 (((h, .inr (8, [.null, .int 0, .null, .null])) :: [(q1, .inl (cyX X 1, (240, .inl (fun _ => 0))))]) : va_W) 1 240 10 [(0, .ref h)] [.ref q1, .ref h]
  refine c_put (ty := .array .byte) (own := RX9) hX 10 0 rfl nI9_X9 tyX9 tyX9_ok nmX9 (by decide) wI9_81 rfl (Or.inr ⟨rfl, rfl⟩) (by decide +kernel) rfl rfl (Nat.le_of_ble_eq_true rfl) dX9_init_10 ?_
  show CJ X _ _ 1 (((h, .inr (8, [.ref q1, .int 0, .null, .null])) :: [(q1, .inl (cyX X 1, (240, .inl (fun _ => 0))))]) : va_W) 1 240 13 [(0, .ref h)] []
  refine c_aload hX 13 0 dX9_init_13 rfl rfl ?_
  refine c_iconst (v := 5) hX 14 dX9_init_14 (by decide) ?_
  refine c_newa (N := 5) (j := 0) (a0 := (5, .inl (fun _ => 0))) hX 15 wI9_82 rfl (fun _ => rfl) ra_i (fun _ => rfl) (by decide) (by decide) (Nat.le_of_ble_eq_true rfl) (Nat.le_of_ble_eq_true rfl) (Nat.le_of_ble_eq_true rfl) dX9_init_15 (fun q2 => ?_)
  show CJ X _ _ 1 (((h, .inr (8, [.ref q1, .int 0, .null, .null])) :: [(q1, .inl (cyX X 1, (240, .inl (fun _ => 0)))), (q2, .inl (cyX X 0, (5, .inl (fun _ => 0))))]) : va_W) 2 245 17 [(0, .ref h)] [.ref q2, .ref h]
  refine c_put (ty := .array .int) (own := RX9) hX 17 2 rfl nI9_X9 tyX9 tyX9_ok nmX9 (by decide) wI9_83 rfl (Or.inr ⟨rfl, rfl⟩) (by decide +kernel) rfl rfl (Nat.le_of_ble_eq_true rfl) dX9_init_17 ?_
  show CJ X _ _ 1 (((h, .inr (8, [.ref q1, .int 0, .ref q2, .null])) :: [(q1, .inl (cyX X 1, (240, .inl (fun _ => 0)))), (q2, .inl (cyX X 0, (5, .inl (fun _ => 0))))]) : va_W) 2 245 20 [(0, .ref h)] []
  refine c_aload hX 20 0 dX9_init_20 rfl rfl ?_
  refine c_new (fs := [.int 0, .int 0, .int 0, .int 0, .int 0, .int 0]) hX 21 (ci := 3) rfl nI9_X3 tyX3 tyX3_ok wI9_84 wI9_85 wI9_86 dfX3 (Nat.le_of_ble_eq_true rfl) (Nat.le_of_ble_eq_true rfl) dX9_init_21 (fun q3 => ?_)
  show CJ X _ _ 1 (((h, .inr (8, [.ref q1, .int 0, .ref q2, .null])) :: [(q1, .inl (cyX X 1, (240, .inl (fun _ => 0)))), (q2, .inl (cyX X 0, (5, .inl (fun _ => 0)))), (q3, .inr (3, [.int 0, .int 0, .int 0, .int 0, .int 0, .int 0]))]) : va_W) 3 251 24 [(0, .ref h)] [.ref q3, .ref h]
  refine c_dup hX 24 dX9_init_24 ?_
  show CJ X _ _ 1 (((h, .inr (8, [.ref q1, .int 0, .ref q2, .null])) :: [(q1, .inl (cyX X 1, (240, .inl (fun _ => 0)))), (q2, .inl (cyX X 0, (5, .inl (fun _ => 0))))]) ++ [(q3, .inr (3, [.int 0, .int 0, .int 0, .int 0, .int 0, .int 0]))] : va_W) 3 251 25 [(0, .ref h)] [.ref q3, .ref q3, .ref h]
  refine c_call (As := []) (st := [.ref q3, .ref h]) (ws := ((h, .inr (8, [.ref q1, .int 0, .ref q2, .null])) :: [(q1, .inl (cyX X 1, (240, .inl (fun _ => 0)))), (q2, .inl (cyX X 0, (5, .inl (fun _ => 0))))])) hX 25 (kI3 q3) gX9_init_X3_init_n21 rfl (Or.inr (by decide +kernel)) wI9_86 wI9_87 rfl eI3 ⟨Nat.le_of_ble_eq_true rfl, Nat.le_of_ble_eq_true rfl⟩ rfl rfl (Nat.le_of_ble_eq_true rfl) dX9_init_25 (Nat.le_of_ble_eq_true rfl) (Nat.le_of_ble_eq_true rfl) (fun w hw => ?_)
  subst hw
  show CJ X _ _ 1 (((h, .inr (8, [.ref q1, .int 0, .ref q2, .null])) :: [(q1, .inl (cyX X 1, (240, .inl (fun _ => 0)))), (q2, .inl (cyX X 0, (5, .inl (fun _ => 0)))), (q3, .inr (3, [.int 0, .int 0, .int 0, .int 0, .int 0, .int 0]))]) : va_W) 3 251 28 [(0, .ref h)] [.ref q3, .ref h]
  refine c_put (ty := .object "TwoTongues$Item") (own := RX9) hX 28 3 rfl nI9_X9 tyX9 tyX9_ok nmX9 (by decide) wI9_88 rfl (Or.inr ⟨rfl, rfl⟩) (by decide +kernel) rfl rfl (Nat.le_of_ble_eq_true rfl) dX9_init_28 ?_
  show CJ X _ _ 1 (((h, .inr (8, [.ref q1, .int 0, .ref q2, .ref q3])) :: [(q1, .inl (cyX X 1, (240, .inl (fun _ => 0)))), (q2, .inl (cyX X 0, (5, .inl (fun _ => 0)))), (q3, .inr (3, [.int 0, .int 0, .int 0, .int 0, .int 0, .int 0]))]) : va_W) 3 251 31 [(0, .ref h)] []
  exact c_ret hX 31 ⟨fun c _ => if c = 8 then h else if c = 46 then q1 else if c = 47 then q2 else if c = 3 then q3 else 0, List.forall_mem_cons.mpr ⟨rfl, fun _ h => absurd h List.not_mem_nil⟩, rfl⟩ (Nat.le_of_ble_eq_true rfl) (Nat.le_of_ble_eq_true rfl) dX9_init_31
