/-! CONSTRUCTORS with a loop -/
theorem mid_get {α : Type} {pre rest : List α} (x : α) : (pre ++ (x :: rest))[pre.length]? = some x := by
  rw [List.getElem?_append_right (Nat.le_refl _)]; simp
theorem mid_set {α : Type} {pre rest : List α} (x y : α) : (pre ++ (x :: rest)).set pre.length y = pre ++ (y :: rest) := by
  induction pre with
  | nil => rfl
  | cons a pre ih => simp only [List.cons_append, List.length_cons, List.set_cons_succ, ih]
theorem mid_oth {α : Type} {pre rest : List α} {x y : α} {k : Nat} (h : k ≠ pre.length) : (pre ++ (x :: rest))[k]? = (pre ++ (y :: rest))[k]? := by
  by_cases hl : k < pre.length
  · rw [List.getElem?_append_left hl, List.getElem?_append_left hl]
  · rw [List.getElem?_append_right (by omega), List.getElem?_append_right (by omega)]
    obtain ⟨d, hd⟩ : ∃ d, k - pre.length = d + 1 := ⟨k - pre.length - 1, by omega⟩
    rw [hd, List.getElem?_cons_succ, List.getElem?_cons_succ]
/-- a row of objects, told otherwise beyond its length -/
theorem arr_ext {cA : ClassId} {n : Nat} {f g : Nat → Option Nat} (h : ∀ j, j < n → f j = g j) : vp_cell cA (n, .inr (.inr (.inr (.inr f)))) = vp_cell cA (n, .inr (.inr (.inr (.inr g)))) := by
  rw [vp_cell_q, vp_cell_q]
  unfold arrV
  congr 2
  funext j
  dsimp only
  rw [h j.val j.isLt]
theorem P_ext {D : va_G} {cl : List vw_C} {H : Heap} {pre rest : va_W} {a : Nat} {cA : ClassId} {n : Nat} {f g : Nat → Option Nat} (h : ∀ j, j < n → f j = g j) (hP : va_P D cl (pre ++ ((a, .inl (cA, (n, .inr (.inr (.inr (.inr f)))))) :: rest)) H) : va_P D cl (pre ++ ((a, .inl (cA, (n, .inr (.inr (.inr (.inr g)))))) :: rest)) H := by
  intro k q hk
  by_cases e : k = pre.length
  · subst e
    rw [mid_get] at hk
    rw [← Option.some.inj hk]
    have h1 := hP pre.length _ (mid_get _)
    show H[a]? = some _
    rw [← arr_ext h]
    exact h1
  · exact hP k q (by rw [mid_oth (y := (a, .inl (cA, (n, .inr (.inr (.inr (.inr g))))))) e]; exact hk)
theorem D_ext {A : Nat → Prop} {pre rest : va_W} {a : Nat} {e e2 : va_E} (hD : va_D A (pre ++ ((a, e) :: rest))) : va_D A (pre ++ ((a, e2) :: rest)) := by
  have key : ∀ (k : Nat) (q : Nat × va_E), (pre ++ ((a, e2) :: rest))[k]? = some q → ∃ q', (pre ++ ((a, e) :: rest))[k]? = some q' ∧ q'.1 = q.1 := fun k q hk => by
    by_cases ek : k = pre.length
    · subst ek
      rw [mid_get] at hk
      exact ⟨(a, e), mid_get _, by rw [← Option.some.inj hk]⟩
    · exact ⟨q, by rw [mid_oth (y := (a, e2)) ek]; exact hk, rfl⟩
  refine ⟨fun i j x y hi hj hxy => ?_, fun k q hk => ?_⟩
  · obtain ⟨x', h1, h2⟩ := key i x hi
    obtain ⟨y', h3, h4⟩ := key j y hj
    exact hD.1 i j x' y' h1 h3 (by rw [h2, h4, hxy])
  · obtain ⟨q', h1, h2⟩ := key k q hk
    rw [← h2]; exact hD.2 k q' h1
section CLOOP
variable {X : Ctx} {R : Room} {Q : State → Prop} {nL cells slots pc : Nat} {ws : va_W} {lv : List (Nat × Value)} {st : List Value} {cc : ByteArray} {own : String} {Ts : List Cond}
theorem c_ext {pre rest : va_W} {a : Nat} {cA : ClassId} {n : Nat} {f g : Nat → Option Nat} (h : ∀ j, j < n → f j = g j) (kk : CJ X R Q nL (pre ++ ((a, .inl (cA, (n, .inr (.inr (.inr (.inr g)))))) :: rest)) cells slots pc lv st) : CJ X R Q nL (pre ++ ((a, .inl (cA, (n, .inr (.inr (.inr (.inr f)))))) :: rest)) cells slots pc lv st := by
  obtain ⟨p, l, e, s, m, args, below, meth, c, dC, dI, cy, A, c0, bc, bs⟩ := X
  intro H locs ls hl2 hP hD hS
  exact kk H locs ls hl2 (P_ext h hP) (D_ext hD) hS
theorem c_astq (hX : COk X cc nL own Ts) (pc q0 qk : Nat) {a v n : Nat} {f : Nat → Option Nat} {vs : List Value} {i : Int32} (ha : ws[q0]? = some (a, .inl (cyX X 4, (n, .inr (.inr (.inr (.inr f))))))) (hv : ws[qk]? = some (v, .inr (3, vs))) (hin : vp_in i n) (d : decode cc pc = .ok (.aastore, 1)) (kk : CJ X R Q nL (ws.set q0 (a, .inl (cyX X 4, (n, .inr (.inr (.inr (.inr (va_up f i.toNatClampNeg (some v))))))))) cells slots (pc + 1) lv st) : CJ X R Q nL ws cells slots pc lv (.ref v :: .int i :: .ref a :: st) := by
  obtain ⟨p, l, e, s, m, args, below, meth, c, dC, dI, cy, A, c0, bc, bs⟩ := X
  obtain ⟨hx, hb, hml, hown, hts, hK, hA, hlocks, hN2, hO, hnm2, hrt⟩ := hX
  intro H locs ls hl2 hP hD hS
  exact va_astq (r := (RX3, TX3, 6)) hx hb hK hP hD hS q0 4 qk 3 ha rfl hv rfl hin d (fun H locs hP hD hS => kk H locs ls hl2 hP hD hS)
theorem c_iast (hX : COk X cc nL own Ts) (pc q0 : Nat) {a n : Nat} {f : Nat → Int32} {i x : Int32} (ha : ws[q0]? = some (a, .inl (cyX X 0, (n, .inl f)))) (hin : vp_in i n) (d : decode cc pc = .ok (.iastore, 1)) (kk : CJ X R Q nL (ws.set q0 (a, .inl (cyX X 0, (n, .inl (upd f i.toNatClampNeg x))))) cells slots (pc + 1) lv st) : CJ X R Q nL ws cells slots pc lv (.int x :: .int i :: .ref a :: st) := by
  obtain ⟨p, l, e, s, m, args, below, meth, c, dC, dI, cy, A, c0, bc, bs⟩ := X
  obtain ⟨hx, hb, hml, hown, hts, hK, hA, hlocks, hN2, hO, hnm2, hrt⟩ := hX
  intro H locs ls hl2 hP hD hS
  exact va_iast hx hb hK hP hD hS q0 0 ha rfl hin d (fun H locs hP hD hS => kk H locs ls hl2 hP hD hS)
end CLOOP
def itc (it : Nat → Nat) (i : Nat) : va_W := (List.range i).map (fun j => (it j, .inr (3, [.int 0, .int 0, .int 0, .int 0, .int 0, .int 0])))
def arF (it : Nat → Nat) (i : Nat) : Nat → Option Nat := fun j => if j < i then some (it j) else none
theorem itc_s (it : Nat → Nat) (i q : Nat) : itc it i ++ [(q, .inr (3, [.int 0, .int 0, .int 0, .int 0, .int 0, .int 0]))] = itc (fun j => if j = i then q else it j) (i + 1) := by
  unfold itc
  rw [List.range_succ, List.map_append]
  congr 1
  · refine List.map_congr_left (fun j hj => ?_)
    have := List.mem_range.mp hj
    dsimp only
    rw [if_neg (show ¬ j = i by omega)]
  · simp
theorem arF_s (it : Nat → Nat) (i q : Nat) : va_up (arF it i) i (some q) = arF (fun j => if j = i then q else it j) (i + 1) := by
  funext j
  unfold va_up arF
  by_cases e : j = i
  · dsimp only
    rw [if_pos e, if_pos (show j < i + 1 by omega), if_pos e]
  · dsimp only
    rw [if_neg e, if_neg e]
    by_cases h : j < i
    · rw [if_pos h, if_pos (show j < i + 1 by omega)]
    · rw [if_neg h, if_neg (show ¬ j < i + 1 by omega)]
theorem nI10_X10 : ∀ w ∈ u_ws RX10 TX10 8, w ∈ wsX10_init := by decide +kernel
theorem nI10_X9 : ∀ w ∈ u_ws RX9 TX9 4, w ∈ wsX10_init := by decide +kernel
theorem nI10_X3 : ∀ w ∈ u_ws RX3 TX3 6, w ∈ wsX10_init := by decide +kernel
theorem wI10_89 : Cond.fieldLink RX10 30 "TwoTongues$Tongue" "inForce" "[LTwoTongues$Item;" ∈ wsX10_init := by decide +kernel
theorem wI10_90 : Cond.classLink RX10 28 RX3 ∈ wsX10_init := by decide +kernel
theorem wI10_91 : Cond.instantiable RX3 6 ∈ wsX10_init := by decide +kernel
theorem wI10_92 : Cond.initialized RX3 ∈ wsX10_init := by decide +kernel
theorem wI10_93 : Cond.instanceMethod yX3_init ∈ wsX10_init := by decide +kernel
set_option maxRecDepth 100000 in
set_option maxHeartbeats 1000000 in
theorem tongue_loop {X : Ctx} (hX : COk X cX10_init 2 RX10 wsX10_init) {R : Room} {Q : State → Prop} {h0 qa c0 s0 : Nat} {fs : List Value} {tl0 mid : va_W} (hfs : fs[5]? = some (.ref qa)) (hR : 2 ≤ R.frames ∧ 32 ≤ R.locals) (hc : c0 + 34 ≤ R.cells) (hs : s0 + 204 ≤ R.slots) (kk : ∀ it : Nat → Nat, CJ X R Q 2 (((h0, .inr (9, fs)) :: tl0) ++ ((qa, .inl (cyX X 4, (34, .inr (.inr (.inr (.inr (arF it 34))))))) :: (mid ++ itc it 34))) (c0 + 34) (s0 + 204) 83 [(0, .ref h0)] []) : ∀ m i (it : Nat → Nat), i ≤ 34 → 34 < i + m → CJ X R Q 2 (((h0, .inr (9, fs)) :: tl0) ++ ((qa, .inl (cyX X 4, (34, .inr (.inr (.inr (.inr (arF it i))))))) :: (mid ++ itc it i))) (c0 + i) (s0 + 6 * i) 58 [(1, .int (nI i)), (0, .ref h0)] [] := by
  intro m
  induction m with
  | zero => intro i it q1 q2; omega
  | succ m ih =>
    intro i it q1 q2
    refine c_iload hX 58 0 dX10_init_58 rfl rfl ?_
    refine c_bipush (v := 34) hX 59 dX10_init_59 (by decide) ?_
    refine c_icmpge hX 61 83 dX10_init_61 (by decide) (fun c1 => ?_) (fun c1 => ?_)
    · have e : i = 34 := by
        by_cases h : i = 34
        · exact h
        · exact absurd c1 (nI_ge (show i < 34 by omega) (by decide))
      subst e
      refine c_sub [1] rfl ?_
      exact kk it
    · have hi : i < 34 := by
        by_cases h : i < 34
        · exact h
        · exact absurd (nI_le (show 34 ≤ i by omega) (by omega)) c1
      refine c_aload hX 64 1 dX10_init_64 rfl rfl ?_
      show CJ X R Q 2 ((h0, .inr (9, fs)) :: (tl0 ++ ((qa, .inl (cyX X 4, (34, .inr (.inr (.inr (.inr (arF it i))))))) :: (mid ++ itc it i)))) _ _ _ _ _
      refine c_get (own := RX10) hX 65 5 rfl nI10_X10 (by decide) wI10_89 rfl hfs dX10_init_65 ?_
      refine c_iload hX 68 0 dX10_init_68 rfl rfl ?_
      refine c_new (fs := [.int 0, .int 0, .int 0, .int 0, .int 0, .int 0]) hX 69 (ci := 3) rfl nI10_X3 tyX3 tyX3_ok wI10_90 wI10_91 wI10_92 dfX3 (by omega) (by omega) dX10_init_69 (fun q => ?_)
      refine c_dup hX 72 dX10_init_72 ?_
      refine c_call (As := []) (st := [.ref q, .int (nI i), .ref qa]) (ws := (h0, .inr (9, fs)) :: (tl0 ++ ((qa, .inl (cyX X 4, (34, .inr (.inr (.inr (.inr (arF it i))))))) :: (mid ++ itc it i)))) hX 73 (kI3 q) gX10_init_X3_init_n37 rfl (Or.inr (by decide +kernel)) wI10_92 wI10_93 rfl eI3 ⟨by omega, by omega⟩ rfl rfl (Nat.le_of_ble_eq_true rfl) dX10_init_73 (by omega) (by omega) (fun w hw => ?_)
      subst hw
      have e1 : (((h0, .inr (9, fs)) :: (tl0 ++ ((qa, .inl (cyX X 4, (34, .inr (.inr (.inr (.inr (arF it i))))))) :: (mid ++ itc it i))) : va_W) ++ ([(q, .inr (3, [.int 0, .int 0, .int 0, .int 0, .int 0, .int 0]))] : va_W)) = (((h0, .inr (9, fs)) :: tl0) ++ ((qa, .inl (cyX X 4, (34, .inr (.inr (.inr (.inr (arF it i))))))) :: (mid ++ itc (fun j => if j = i then q else it j) (i + 1)))) := by
        rw [← itc_s]; simp
      rw [e1]
      have hlen : (((h0, .inr (9, fs)) :: tl0) ++ ((qa, .inl (cyX X 4, (34, .inr (.inr (.inr (.inr (arF it i))))))) :: (mid ++ itc (fun j => if j = i then q else it j) (i + 1))) : va_W)[(((h0, .inr (9, fs)) :: tl0) ++ ((qa, .inl (cyX X 4, (34, .inr (.inr (.inr (.inr (arF it i))))))) :: (mid ++ itc it i)) : va_W).length]? = some (q, .inr (3, [.int 0, .int 0, .int 0, .int 0, .int 0, .int 0])) := by
        rw [← e1, List.getElem?_append_right (by simp)]
        simp
      refine c_astq hX 76 ((h0, Sum.inr (9, fs)) :: tl0 : va_W).length _ (mid_get _) hlen (nI_in hi (by decide)) dX10_init_76 ?_
      rw [mid_set, nI_clamp (show i < 2147483648 by omega), arF_s]
      refine c_iinc (v := nI (i + 1)) (lv2 := [(1, .int (nI (i + 1))), (0, .ref h0)]) hX 77 0 dX10_init_77 rfl (nI_1 i) (by decide) rfl ?_
      refine c_goto hX 80 58 dX10_init_80 (by decide) ?_
      exact ih (i + 1) (fun j => if j = i then q else it j) (by omega) (by omega)
theorem wI10_94 : Cond.methodLink RX10 3 objectInit ∈ wsX10_init := by decide +kernel
theorem wI10_95 : Cond.instanceMethod objectInit ∈ wsX10_init := by decide +kernel
theorem wI10_96 : Cond.code objectInit ⟨#[0xb1]⟩ 1 none ∈ wsX10_init := by decide +kernel
theorem wI10_97 : Cond.arrayClass .int ∈ wsX10_init := by decide +kernel
theorem wI10_98 : Cond.fieldLink RX10 9 "TwoTongues$Tongue" "toldWord" "[I" ∈ wsX10_init := by decide +kernel
theorem wI10_99 : Cond.fieldLink RX10 15 "TwoTongues$Tongue" "toldYear" "[I" ∈ wsX10_init := by decide +kernel
theorem wI10_100 : Cond.fieldLink RX10 18 "TwoTongues$Tongue" "toldVerbs" "[I" ∈ wsX10_init := by decide +kernel
theorem wI10_101 : Cond.classLink RX10 21 RX9 ∈ wsX10_init := by decide +kernel
theorem wI10_102 : Cond.instantiable RX9 4 ∈ wsX10_init := by decide +kernel
theorem wI10_103 : Cond.initialized RX9 ∈ wsX10_init := by decide +kernel
theorem wI10_104 : Cond.instanceMethod yX9_init ∈ wsX10_init := by decide +kernel
theorem wI10_105 : Cond.fieldLink RX10 24 "TwoTongues$Tongue" "text" "LTwoTongues$Text;" ∈ wsX10_init := by decide +kernel
theorem wI10_106 : Cond.fieldLink RX10 34 "TwoTongues$Tongue" "meaning" "[I" ∈ wsX10_init := by decide +kernel
def plI10_0 : List (Nat × Nat) := [(9, 0), (48, 0), (49, 0), (50, 0)] ++ (plI9_0 ++ ([(51, 0), (52, 0)] ++ (List.range 34).map (fun i => (3, 34 * 0 + i))))
set_option maxRecDepth 100000 in
set_option maxHeartbeats 1000000 in
theorem kI10_0 {l : Launch} {dC : Nat → ClassId} {dI : Nat → Nat → Nat} {cy : Nat → ClassId} (h : Nat) : CTI l dC dI cy yX10_init wsX10_init 3 52 43 561 h 9 [.null, .null, .null, .int 0, .null, .null, .int 0, .null] [] (Pst cy plI10_0 [(9, 0, h)]) := by
  refine cti_of (by decide) rfl rfl (Nat.le_of_ble_eq_true rfl) rfl ?_
  intro X hcy hX
  subst hcy
  refine c_aload hX 0 0 dX10_init_0 rfl rfl ?_
  refine c_obj hX 1 wI10_94 wI10_95 wI10_96 dX10_init_1 (Nat.le_of_ble_eq_true rfl) (Nat.le_of_ble_eq_true rfl) ?_
  refine c_aload hX 4 0 dX10_init_4 rfl rfl ?_
  refine c_bipush (v := 20) hX 5 dX10_init_5 (by decide) ?_
  refine c_newa (N := 20) (j := 0) (a0 := (20, .inl (fun _ => 0))) hX 7 wI10_97 rfl (fun _ => rfl) ra_i (fun _ => rfl) (by decide) (by decide) (Nat.le_of_ble_eq_true rfl) (Nat.le_of_ble_eq_true rfl) (Nat.le_of_ble_eq_true rfl) dX10_init_7 (fun q1 => ?_)
  show CJ X _ _ 2 (((h, .inr (9, [.null, .null, .null, .int 0, .null, .null, .int 0, .null])) :: [(q1, .inl (cyX X 0, (20, .inl (fun _ => 0))))]) : va_W) 1 20 9 [(0, .ref h)] [.ref q1, .ref h]
  refine c_put (ty := .array .int) (own := RX10) hX 9 0 rfl nI10_X10 tyX10 tyX10_ok nmX10 (by decide) wI10_98 rfl (Or.inr ⟨rfl, rfl⟩) (by decide +kernel) rfl rfl (Nat.le_of_ble_eq_true rfl) dX10_init_9 ?_
  show CJ X _ _ 2 (((h, .inr (9, [.ref q1, .null, .null, .int 0, .null, .null, .int 0, .null])) :: [(q1, .inl (cyX X 0, (20, .inl (fun _ => 0))))]) : va_W) 1 20 12 [(0, .ref h)] []
  refine c_aload hX 12 0 dX10_init_12 rfl rfl ?_
  refine c_bipush (v := 20) hX 13 dX10_init_13 (by decide) ?_
  refine c_newa (N := 20) (j := 0) (a0 := (20, .inl (fun _ => 0))) hX 15 wI10_97 rfl (fun _ => rfl) ra_i (fun _ => rfl) (by decide) (by decide) (Nat.le_of_ble_eq_true rfl) (Nat.le_of_ble_eq_true rfl) (Nat.le_of_ble_eq_true rfl) dX10_init_15 (fun q2 => ?_)
  show CJ X _ _ 2 (((h, .inr (9, [.ref q1, .null, .null, .int 0, .null, .null, .int 0, .null])) :: [(q1, .inl (cyX X 0, (20, .inl (fun _ => 0)))), (q2, .inl (cyX X 0, (20, .inl (fun _ => 0))))]) : va_W) 2 40 17 [(0, .ref h)] [.ref q2, .ref h]
  refine c_put (ty := .array .int) (own := RX10) hX 17 1 rfl nI10_X10 tyX10 tyX10_ok nmX10 (by decide) wI10_99 rfl (Or.inr ⟨rfl, rfl⟩) (by decide +kernel) rfl rfl (Nat.le_of_ble_eq_true rfl) dX10_init_17 ?_
  show CJ X _ _ 2 (((h, .inr (9, [.ref q1, .ref q2, .null, .int 0, .null, .null, .int 0, .null])) :: [(q1, .inl (cyX X 0, (20, .inl (fun _ => 0)))), (q2, .inl (cyX X 0, (20, .inl (fun _ => 0))))]) : va_W) 2 40 20 [(0, .ref h)] []
  refine c_aload hX 20 0 dX10_init_20 rfl rfl ?_
  refine c_bipush (v := 20) hX 21 dX10_init_21 (by decide) ?_
  refine c_newa (N := 20) (j := 0) (a0 := (20, .inl (fun _ => 0))) hX 23 wI10_97 rfl (fun _ => rfl) ra_i (fun _ => rfl) (by decide) (by decide) (Nat.le_of_ble_eq_true rfl) (Nat.le_of_ble_eq_true rfl) (Nat.le_of_ble_eq_true rfl) dX10_init_23 (fun q3 => ?_)
  show CJ X _ _ 2 (((h, .inr (9, [.ref q1, .ref q2, .null, .int 0, .null, .null, .int 0, .null])) :: [(q1, .inl (cyX X 0, (20, .inl (fun _ => 0)))), (q2, .inl (cyX X 0, (20, .inl (fun _ => 0)))), (q3, .inl (cyX X 0, (20, .inl (fun _ => 0))))]) : va_W) 3 60 25 [(0, .ref h)] [.ref q3, .ref h]
  refine c_put (ty := .array .int) (own := RX10) hX 25 2 rfl nI10_X10 tyX10 tyX10_ok nmX10 (by decide) wI10_100 rfl (Or.inr ⟨rfl, rfl⟩) (by decide +kernel) rfl rfl (Nat.le_of_ble_eq_true rfl) dX10_init_25 ?_
  show CJ X _ _ 2 (((h, .inr (9, [.ref q1, .ref q2, .ref q3, .int 0, .null, .null, .int 0, .null])) :: [(q1, .inl (cyX X 0, (20, .inl (fun _ => 0)))), (q2, .inl (cyX X 0, (20, .inl (fun _ => 0)))), (q3, .inl (cyX X 0, (20, .inl (fun _ => 0))))]) : va_W) 3 60 28 [(0, .ref h)] []
  refine c_aload hX 28 0 dX10_init_28 rfl rfl ?_
  refine c_new (fs := [.null, .int 0, .null, .null]) hX 29 (ci := 8) rfl nI10_X9 tyX9 tyX9_ok wI10_101 wI10_102 wI10_103 dfX9 (Nat.le_of_ble_eq_true rfl) (Nat.le_of_ble_eq_true rfl) dX10_init_29 (fun q4 => ?_)
  show CJ X _ _ 2 (((h, .inr (9, [.ref q1, .ref q2, .ref q3, .int 0, .null, .null, .int 0, .null])) :: [(q1, .inl (cyX X 0, (20, .inl (fun _ => 0)))), (q2, .inl (cyX X 0, (20, .inl (fun _ => 0)))), (q3, .inl (cyX X 0, (20, .inl (fun _ => 0)))), (q4, .inr (8, [.null, .int 0, .null, .null]))]) : va_W) 4 64 32 [(0, .ref h)] [.ref q4, .ref h]
  refine c_dup hX 32 dX10_init_32 ?_
  show CJ X _ _ 2 (((h, .inr (9, [.ref q1, .ref q2, .ref q3, .int 0, .null, .null, .int 0, .null])) :: [(q1, .inl (cyX X 0, (20, .inl (fun _ => 0)))), (q2, .inl (cyX X 0, (20, .inl (fun _ => 0)))), (q3, .inl (cyX X 0, (20, .inl (fun _ => 0))))]) ++ [(q4, .inr (8, [.null, .int 0, .null, .null]))] : va_W) 4 64 33 [(0, .ref h)] [.ref q4, .ref q4, .ref h]
  refine c_call (As := []) (st := [.ref q4, .ref h]) (ws := ((h, .inr (9, [.ref q1, .ref q2, .ref q3, .int 0, .null, .null, .int 0, .null])) :: [(q1, .inl (cyX X 0, (20, .inl (fun _ => 0)))), (q2, .inl (cyX X 0, (20, .inl (fun _ => 0)))), (q3, .inl (cyX X 0, (20, .inl (fun _ => 0))))])) hX 33 (kI9_0 q4) gX10_init_X9_init_n23 rfl (Or.inr (by decide +kernel)) wI10_103 wI10_104 rfl eI9 ⟨Nat.le_of_ble_eq_true rfl, Nat.le_of_ble_eq_true rfl⟩ rfl rfl (Nat.le_of_ble_eq_true rfl) dX10_init_33 (Nat.le_of_ble_eq_true rfl) (Nat.le_of_ble_eq_true rfl) (fun w hw => ?_)
  obtain ⟨aT, hc, rfl⟩ := hw
  show CJ X _ _ 2 (((h, .inr (9, [.ref q1, .ref q2, .ref q3, .int 0, .null, .null, .int 0, .null])) :: ((([(q1, .inl (cyX X 0, (20, .inl (fun _ => 0))))] ++ [(q2, .inl (cyX X 0, (20, .inl (fun _ => 0))))]) ++ [(q3, .inl (cyX X 0, (20, .inl (fun _ => 0))))]) ++ plI9_0.map (cel (cyX X) aT))) : va_W) 7 315 36 [(0, .ref h)] [.ref q4, .ref h]
  refine c_put (ty := .object "TwoTongues$Text") (own := RX10) hX 36 4 rfl nI10_X10 tyX10 tyX10_ok nmX10 (by decide) wI10_105 rfl (Or.inr ⟨rfl, rfl⟩) (by decide +kernel) rfl rfl (Nat.le_of_ble_eq_true rfl) dX10_init_36 ?_
  show CJ X _ _ 2 (((h, .inr (9, [.ref q1, .ref q2, .ref q3, .int 0, .ref q4, .null, .int 0, .null])) :: ((([(q1, .inl (cyX X 0, (20, .inl (fun _ => 0))))] ++ [(q2, .inl (cyX X 0, (20, .inl (fun _ => 0))))]) ++ [(q3, .inl (cyX X 0, (20, .inl (fun _ => 0))))]) ++ plI9_0.map (cel (cyX X) aT))) : va_W) 7 315 39 [(0, .ref h)] []
  refine c_aload hX 39 0 dX10_init_39 rfl rfl ?_
  refine c_bipush (v := 34) hX 40 dX10_init_40 (by decide) ?_
  refine c_newq (N := 34) hX 42 wI10_90 (by decide) (by decide) (Nat.le_of_ble_eq_true rfl) (Nat.le_of_ble_eq_true rfl) (Nat.le_of_ble_eq_true rfl) dX10_init_42 (fun q5 => ?_)
  show CJ X _ _ 2 (((h, .inr (9, [.ref q1, .ref q2, .ref q3, .int 0, .ref q4, .null, .int 0, .null])) :: (((([(q1, .inl (cyX X 0, (20, .inl (fun _ => 0))))] ++ [(q2, .inl (cyX X 0, (20, .inl (fun _ => 0))))]) ++ [(q3, .inl (cyX X 0, (20, .inl (fun _ => 0))))]) ++ plI9_0.map (cel (cyX X) aT)) ++ [(q5, .inl (cyX X 4, (34, .inr (.inr (.inr (.inr (fun _ => none)))))))])) : va_W) 8 349 45 [(0, .ref h)] [.ref q5, .ref h]
  refine c_put (ty := .array (.object "TwoTongues$Item")) (own := RX10) hX 45 5 rfl nI10_X10 tyX10 tyX10_ok nmX10 (by decide) wI10_89 rfl (Or.inr ⟨rfl, rfl⟩) (by decide +kernel) rfl rfl (Nat.le_of_ble_eq_true rfl) dX10_init_45 ?_
  show CJ X _ _ 2 (((h, .inr (9, [.ref q1, .ref q2, .ref q3, .int 0, .ref q4, .ref q5, .int 0, .null])) :: (((([(q1, .inl (cyX X 0, (20, .inl (fun _ => 0))))] ++ [(q2, .inl (cyX X 0, (20, .inl (fun _ => 0))))]) ++ [(q3, .inl (cyX X 0, (20, .inl (fun _ => 0))))]) ++ plI9_0.map (cel (cyX X) aT)) ++ [(q5, .inl (cyX X 4, (34, .inr (.inr (.inr (.inr (fun _ => none)))))))])) : va_W) 8 349 48 [(0, .ref h)] []
  refine c_aload hX 48 0 dX10_init_48 rfl rfl ?_
  refine c_bipush (v := 8) hX 49 dX10_init_49 (by decide) ?_
  refine c_newa (N := 8) (j := 0) (a0 := (8, .inl (fun _ => 0))) hX 51 wI10_97 rfl (fun _ => rfl) ra_i (fun _ => rfl) (by decide) (by decide) (Nat.le_of_ble_eq_true rfl) (Nat.le_of_ble_eq_true rfl) (Nat.le_of_ble_eq_true rfl) dX10_init_51 (fun q6 => ?_)
  show CJ X _ _ 2 (((h, .inr (9, [.ref q1, .ref q2, .ref q3, .int 0, .ref q4, .ref q5, .int 0, .null])) :: ((((([(q1, .inl (cyX X 0, (20, .inl (fun _ => 0))))] ++ [(q2, .inl (cyX X 0, (20, .inl (fun _ => 0))))]) ++ [(q3, .inl (cyX X 0, (20, .inl (fun _ => 0))))]) ++ plI9_0.map (cel (cyX X) aT)) ++ [(q5, .inl (cyX X 4, (34, .inr (.inr (.inr (.inr (fun _ => none)))))))]) ++ [(q6, .inl (cyX X 0, (8, .inl (fun _ => 0))))])) : va_W) 9 357 53 [(0, .ref h)] [.ref q6, .ref h]
  refine c_put (ty := .array .int) (own := RX10) hX 53 7 rfl nI10_X10 tyX10 tyX10_ok nmX10 (by decide) wI10_106 rfl (Or.inr ⟨rfl, rfl⟩) (by decide +kernel) rfl rfl (Nat.le_of_ble_eq_true rfl) dX10_init_53 ?_
  show CJ X _ _ 2 (((h, .inr (9, [.ref q1, .ref q2, .ref q3, .int 0, .ref q4, .ref q5, .int 0, .ref q6])) :: ((((([(q1, .inl (cyX X 0, (20, .inl (fun _ => 0))))] ++ [(q2, .inl (cyX X 0, (20, .inl (fun _ => 0))))]) ++ [(q3, .inl (cyX X 0, (20, .inl (fun _ => 0))))]) ++ plI9_0.map (cel (cyX X) aT)) ++ [(q5, .inl (cyX X 4, (34, .inr (.inr (.inr (.inr (fun _ => none)))))))]) ++ [(q6, .inl (cyX X 0, (8, .inl (fun _ => 0))))])) : va_W) 9 357 56 [(0, .ref h)] []
  refine c_iconst (v := 0) hX 56 dX10_init_56 (by decide) ?_
  refine c_istore (x := 0) (lv2 := [(1, .int 0), (0, .ref h)]) hX 57 dX10_init_57 rfl (by decide) rfl ?_
  refine tongue_loop hX (R := { frames := 3, cells := 43, slots := 561, locals := 52 }) (h0 := h) (qa := q5) (c0 := 9) (s0 := 357) (fs := [.ref q1, .ref q2, .ref q3, .int 0, .ref q4, .ref q5, .int 0, .ref q6]) (tl0 := ([(q1, .inl (cyX X 0, (20, .inl (fun _ => 0)))), (q2, .inl (cyX X 0, (20, .inl (fun _ => 0)))), (q3, .inl (cyX X 0, (20, .inl (fun _ => 0))))] ++ plI9_0.map (cel (cyX X) aT))) (mid := [(q6, .inl (cyX X 0, (8, .inl (fun _ => 0))))]) rfl ⟨Nat.le_of_ble_eq_true rfl, Nat.le_of_ble_eq_true rfl⟩ (Nat.le_of_ble_eq_true rfl) (Nat.le_of_ble_eq_true rfl) (fun it => ?_) 35 0 (fun _ => 0) (by omega) (by omega)
  refine c_ext (g := fun i => some ((fun (c n : Nat) => if c = 9 then h else if c = 48 then q1 else if c = 49 then q2 else if c = 50 then q3 else if c = 51 then q5 else if c = 52 then q6 else if c = 3 then (if n = 68 then aT 3 68 else it (n - 0)) else aT c n) 3 (34 * 0 + i))) (fun j hj => ?_) ?_
  · show (if j < 34 then some (it j) else none) = some (if 34 * 0 + j = 68 then aT 3 68 else it (34 * 0 + j - 0))
    rw [if_pos hj, if_neg (by omega)]
    congr 2
    omega
  · refine c_ret hX 83 ⟨fun (c n : Nat) => if c = 9 then h else if c = 48 then q1 else if c = 49 then q2 else if c = 50 then q3 else if c = 51 then q5 else if c = 52 then q6 else if c = 3 then (if n = 68 then aT 3 68 else it (n - 0)) else aT c n, List.forall_mem_cons.mpr ⟨rfl, fun _ h => absurd h List.not_mem_nil⟩, ?_⟩ (Nat.le_of_ble_eq_true rfl) (Nat.le_of_ble_eq_true rfl) dX10_init_83
    have hc8 : aT 8 0 = q4 := hc (8, 0, q4) List.mem_cons_self
    rw [← hc8]
    rfl
def plI10_1 : List (Nat × Nat) := [(9, 1), (48, 1), (49, 1), (50, 1)] ++ (plI9_1 ++ ([(51, 1), (52, 1)] ++ (List.range 34).map (fun i => (3, 34 * 1 + i))))
set_option maxRecDepth 100000 in
set_option maxHeartbeats 1000000 in
theorem kI10_1 {l : Launch} {dC : Nat → ClassId} {dI : Nat → Nat → Nat} {cy : Nat → ClassId} (h : Nat) : CTI l dC dI cy yX10_init wsX10_init 3 52 43 561 h 9 [.null, .null, .null, .int 0, .null, .null, .int 0, .null] [] (Pst cy plI10_1 [(9, 1, h)]) := by
  refine cti_of (by decide) rfl rfl (Nat.le_of_ble_eq_true rfl) rfl ?_
  intro X hcy hX
  subst hcy
  refine c_aload hX 0 0 dX10_init_0 rfl rfl ?_
  refine c_obj hX 1 wI10_94 wI10_95 wI10_96 dX10_init_1 (Nat.le_of_ble_eq_true rfl) (Nat.le_of_ble_eq_true rfl) ?_
  refine c_aload hX 4 0 dX10_init_4 rfl rfl ?_
  refine c_bipush (v := 20) hX 5 dX10_init_5 (by decide) ?_
  refine c_newa (N := 20) (j := 0) (a0 := (20, .inl (fun _ => 0))) hX 7 wI10_97 rfl (fun _ => rfl) ra_i (fun _ => rfl) (by decide) (by decide) (Nat.le_of_ble_eq_true rfl) (Nat.le_of_ble_eq_true rfl) (Nat.le_of_ble_eq_true rfl) dX10_init_7 (fun q1 => ?_)
  show CJ X _ _ 2 (((h, .inr (9, [.null, .null, .null, .int 0, .null, .null, .int 0, .null])) :: [(q1, .inl (cyX X 0, (20, .inl (fun _ => 0))))]) : va_W) 1 20 9 [(0, .ref h)] [.ref q1, .ref h]
  refine c_put (ty := .array .int) (own := RX10) hX 9 0 rfl nI10_X10 tyX10 tyX10_ok nmX10 (by decide) wI10_98 rfl (Or.inr ⟨rfl, rfl⟩) (by decide +kernel) rfl rfl (Nat.le_of_ble_eq_true rfl) dX10_init_9 ?_
  show CJ X _ _ 2 (((h, .inr (9, [.ref q1, .null, .null, .int 0, .null, .null, .int 0, .null])) :: [(q1, .inl (cyX X 0, (20, .inl (fun _ => 0))))]) : va_W) 1 20 12 [(0, .ref h)] []
  refine c_aload hX 12 0 dX10_init_12 rfl rfl ?_
  refine c_bipush (v := 20) hX 13 dX10_init_13 (by decide) ?_
  refine c_newa (N := 20) (j := 0) (a0 := (20, .inl (fun _ => 0))) hX 15 wI10_97 rfl (fun _ => rfl) ra_i (fun _ => rfl) (by decide) (by decide) (Nat.le_of_ble_eq_true rfl) (Nat.le_of_ble_eq_true rfl) (Nat.le_of_ble_eq_true rfl) dX10_init_15 (fun q2 => ?_)
  show CJ X _ _ 2 (((h, .inr (9, [.ref q1, .null, .null, .int 0, .null, .null, .int 0, .null])) :: [(q1, .inl (cyX X 0, (20, .inl (fun _ => 0)))), (q2, .inl (cyX X 0, (20, .inl (fun _ => 0))))]) : va_W) 2 40 17 [(0, .ref h)] [.ref q2, .ref h]
  refine c_put (ty := .array .int) (own := RX10) hX 17 1 rfl nI10_X10 tyX10 tyX10_ok nmX10 (by decide) wI10_99 rfl (Or.inr ⟨rfl, rfl⟩) (by decide +kernel) rfl rfl (Nat.le_of_ble_eq_true rfl) dX10_init_17 ?_
  show CJ X _ _ 2 (((h, .inr (9, [.ref q1, .ref q2, .null, .int 0, .null, .null, .int 0, .null])) :: [(q1, .inl (cyX X 0, (20, .inl (fun _ => 0)))), (q2, .inl (cyX X 0, (20, .inl (fun _ => 0))))]) : va_W) 2 40 20 [(0, .ref h)] []
  refine c_aload hX 20 0 dX10_init_20 rfl rfl ?_
  refine c_bipush (v := 20) hX 21 dX10_init_21 (by decide) ?_
  refine c_newa (N := 20) (j := 0) (a0 := (20, .inl (fun _ => 0))) hX 23 wI10_97 rfl (fun _ => rfl) ra_i (fun _ => rfl) (by decide) (by decide) (Nat.le_of_ble_eq_true rfl) (Nat.le_of_ble_eq_true rfl) (Nat.le_of_ble_eq_true rfl) dX10_init_23 (fun q3 => ?_)
  show CJ X _ _ 2 (((h, .inr (9, [.ref q1, .ref q2, .null, .int 0, .null, .null, .int 0, .null])) :: [(q1, .inl (cyX X 0, (20, .inl (fun _ => 0)))), (q2, .inl (cyX X 0, (20, .inl (fun _ => 0)))), (q3, .inl (cyX X 0, (20, .inl (fun _ => 0))))]) : va_W) 3 60 25 [(0, .ref h)] [.ref q3, .ref h]
  refine c_put (ty := .array .int) (own := RX10) hX 25 2 rfl nI10_X10 tyX10 tyX10_ok nmX10 (by decide) wI10_100 rfl (Or.inr ⟨rfl, rfl⟩) (by decide +kernel) rfl rfl (Nat.le_of_ble_eq_true rfl) dX10_init_25 ?_
  show CJ X _ _ 2 (((h, .inr (9, [.ref q1, .ref q2, .ref q3, .int 0, .null, .null, .int 0, .null])) :: [(q1, .inl (cyX X 0, (20, .inl (fun _ => 0)))), (q2, .inl (cyX X 0, (20, .inl (fun _ => 0)))), (q3, .inl (cyX X 0, (20, .inl (fun _ => 0))))]) : va_W) 3 60 28 [(0, .ref h)] []
  refine c_aload hX 28 0 dX10_init_28 rfl rfl ?_
  refine c_new (fs := [.null, .int 0, .null, .null]) hX 29 (ci := 8) rfl nI10_X9 tyX9 tyX9_ok wI10_101 wI10_102 wI10_103 dfX9 (Nat.le_of_ble_eq_true rfl) (Nat.le_of_ble_eq_true rfl) dX10_init_29 (fun q4 => ?_)
  show CJ X _ _ 2 (((h, .inr (9, [.ref q1, .ref q2, .ref q3, .int 0, .null, .null, .int 0, .null])) :: [(q1, .inl (cyX X 0, (20, .inl (fun _ => 0)))), (q2, .inl (cyX X 0, (20, .inl (fun _ => 0)))), (q3, .inl (cyX X 0, (20, .inl (fun _ => 0)))), (q4, .inr (8, [.null, .int 0, .null, .null]))]) : va_W) 4 64 32 [(0, .ref h)] [.ref q4, .ref h]
  refine c_dup hX 32 dX10_init_32 ?_
  show CJ X _ _ 2 (((h, .inr (9, [.ref q1, .ref q2, .ref q3, .int 0, .null, .null, .int 0, .null])) :: [(q1, .inl (cyX X 0, (20, .inl (fun _ => 0)))), (q2, .inl (cyX X 0, (20, .inl (fun _ => 0)))), (q3, .inl (cyX X 0, (20, .inl (fun _ => 0))))]) ++ [(q4, .inr (8, [.null, .int 0, .null, .null]))] : va_W) 4 64 33 [(0, .ref h)] [.ref q4, .ref q4, .ref h]
  refine c_call (As := []) (st := [.ref q4, .ref h]) (ws := ((h, .inr (9, [.ref q1, .ref q2, .ref q3, .int 0, .null, .null, .int 0, .null])) :: [(q1, .inl (cyX X 0, (20, .inl (fun _ => 0)))), (q2, .inl (cyX X 0, (20, .inl (fun _ => 0)))), (q3, .inl (cyX X 0, (20, .inl (fun _ => 0))))])) hX 33 (kI9_1 q4) gX10_init_X9_init_n23 rfl (Or.inr (by decide +kernel)) wI10_103 wI10_104 rfl eI9 ⟨Nat.le_of_ble_eq_true rfl, Nat.le_of_ble_eq_true rfl⟩ rfl rfl (Nat.le_of_ble_eq_true rfl) dX10_init_33 (Nat.le_of_ble_eq_true rfl) (Nat.le_of_ble_eq_true rfl) (fun w hw => ?_)
  obtain ⟨aT, hc, rfl⟩ := hw
  show CJ X _ _ 2 (((h, .inr (9, [.ref q1, .ref q2, .ref q3, .int 0, .null, .null, .int 0, .null])) :: ((([(q1, .inl (cyX X 0, (20, .inl (fun _ => 0))))] ++ [(q2, .inl (cyX X 0, (20, .inl (fun _ => 0))))]) ++ [(q3, .inl (cyX X 0, (20, .inl (fun _ => 0))))]) ++ plI9_1.map (cel (cyX X) aT))) : va_W) 7 315 36 [(0, .ref h)] [.ref q4, .ref h]
  refine c_put (ty := .object "TwoTongues$Text") (own := RX10) hX 36 4 rfl nI10_X10 tyX10 tyX10_ok nmX10 (by decide) wI10_105 rfl (Or.inr ⟨rfl, rfl⟩) (by decide +kernel) rfl rfl (Nat.le_of_ble_eq_true rfl) dX10_init_36 ?_
  show CJ X _ _ 2 (((h, .inr (9, [.ref q1, .ref q2, .ref q3, .int 0, .ref q4, .null, .int 0, .null])) :: ((([(q1, .inl (cyX X 0, (20, .inl (fun _ => 0))))] ++ [(q2, .inl (cyX X 0, (20, .inl (fun _ => 0))))]) ++ [(q3, .inl (cyX X 0, (20, .inl (fun _ => 0))))]) ++ plI9_1.map (cel (cyX X) aT))) : va_W) 7 315 39 [(0, .ref h)] []
  refine c_aload hX 39 0 dX10_init_39 rfl rfl ?_
  refine c_bipush (v := 34) hX 40 dX10_init_40 (by decide) ?_
  refine c_newq (N := 34) hX 42 wI10_90 (by decide) (by decide) (Nat.le_of_ble_eq_true rfl) (Nat.le_of_ble_eq_true rfl) (Nat.le_of_ble_eq_true rfl) dX10_init_42 (fun q5 => ?_)
  show CJ X _ _ 2 (((h, .inr (9, [.ref q1, .ref q2, .ref q3, .int 0, .ref q4, .null, .int 0, .null])) :: (((([(q1, .inl (cyX X 0, (20, .inl (fun _ => 0))))] ++ [(q2, .inl (cyX X 0, (20, .inl (fun _ => 0))))]) ++ [(q3, .inl (cyX X 0, (20, .inl (fun _ => 0))))]) ++ plI9_1.map (cel (cyX X) aT)) ++ [(q5, .inl (cyX X 4, (34, .inr (.inr (.inr (.inr (fun _ => none)))))))])) : va_W) 8 349 45 [(0, .ref h)] [.ref q5, .ref h]
  refine c_put (ty := .array (.object "TwoTongues$Item")) (own := RX10) hX 45 5 rfl nI10_X10 tyX10 tyX10_ok nmX10 (by decide) wI10_89 rfl (Or.inr ⟨rfl, rfl⟩) (by decide +kernel) rfl rfl (Nat.le_of_ble_eq_true rfl) dX10_init_45 ?_
  show CJ X _ _ 2 (((h, .inr (9, [.ref q1, .ref q2, .ref q3, .int 0, .ref q4, .ref q5, .int 0, .null])) :: (((([(q1, .inl (cyX X 0, (20, .inl (fun _ => 0))))] ++ [(q2, .inl (cyX X 0, (20, .inl (fun _ => 0))))]) ++ [(q3, .inl (cyX X 0, (20, .inl (fun _ => 0))))]) ++ plI9_1.map (cel (cyX X) aT)) ++ [(q5, .inl (cyX X 4, (34, .inr (.inr (.inr (.inr (fun _ => none)))))))])) : va_W) 8 349 48 [(0, .ref h)] []
  refine c_aload hX 48 0 dX10_init_48 rfl rfl ?_
  refine c_bipush (v := 8) hX 49 dX10_init_49 (by decide) ?_
  refine c_newa (N := 8) (j := 0) (a0 := (8, .inl (fun _ => 0))) hX 51 wI10_97 rfl (fun _ => rfl) ra_i (fun _ => rfl) (by decide) (by decide) (Nat.le_of_ble_eq_true rfl) (Nat.le_of_ble_eq_true rfl) (Nat.le_of_ble_eq_true rfl) dX10_init_51 (fun q6 => ?_)
  show CJ X _ _ 2 (((h, .inr (9, [.ref q1, .ref q2, .ref q3, .int 0, .ref q4, .ref q5, .int 0, .null])) :: ((((([(q1, .inl (cyX X 0, (20, .inl (fun _ => 0))))] ++ [(q2, .inl (cyX X 0, (20, .inl (fun _ => 0))))]) ++ [(q3, .inl (cyX X 0, (20, .inl (fun _ => 0))))]) ++ plI9_1.map (cel (cyX X) aT)) ++ [(q5, .inl (cyX X 4, (34, .inr (.inr (.inr (.inr (fun _ => none)))))))]) ++ [(q6, .inl (cyX X 0, (8, .inl (fun _ => 0))))])) : va_W) 9 357 53 [(0, .ref h)] [.ref q6, .ref h]
  refine c_put (ty := .array .int) (own := RX10) hX 53 7 rfl nI10_X10 tyX10 tyX10_ok nmX10 (by decide) wI10_106 rfl (Or.inr ⟨rfl, rfl⟩) (by decide +kernel) rfl rfl (Nat.le_of_ble_eq_true rfl) dX10_init_53 ?_
  show CJ X _ _ 2 (((h, .inr (9, [.ref q1, .ref q2, .ref q3, .int 0, .ref q4, .ref q5, .int 0, .ref q6])) :: ((((([(q1, .inl (cyX X 0, (20, .inl (fun _ => 0))))] ++ [(q2, .inl (cyX X 0, (20, .inl (fun _ => 0))))]) ++ [(q3, .inl (cyX X 0, (20, .inl (fun _ => 0))))]) ++ plI9_1.map (cel (cyX X) aT)) ++ [(q5, .inl (cyX X 4, (34, .inr (.inr (.inr (.inr (fun _ => none)))))))]) ++ [(q6, .inl (cyX X 0, (8, .inl (fun _ => 0))))])) : va_W) 9 357 56 [(0, .ref h)] []
  refine c_iconst (v := 0) hX 56 dX10_init_56 (by decide) ?_
  refine c_istore (x := 0) (lv2 := [(1, .int 0), (0, .ref h)]) hX 57 dX10_init_57 rfl (by decide) rfl ?_
  refine tongue_loop hX (R := { frames := 3, cells := 43, slots := 561, locals := 52 }) (h0 := h) (qa := q5) (c0 := 9) (s0 := 357) (fs := [.ref q1, .ref q2, .ref q3, .int 0, .ref q4, .ref q5, .int 0, .ref q6]) (tl0 := ([(q1, .inl (cyX X 0, (20, .inl (fun _ => 0)))), (q2, .inl (cyX X 0, (20, .inl (fun _ => 0)))), (q3, .inl (cyX X 0, (20, .inl (fun _ => 0))))] ++ plI9_1.map (cel (cyX X) aT))) (mid := [(q6, .inl (cyX X 0, (8, .inl (fun _ => 0))))]) rfl ⟨Nat.le_of_ble_eq_true rfl, Nat.le_of_ble_eq_true rfl⟩ (Nat.le_of_ble_eq_true rfl) (Nat.le_of_ble_eq_true rfl) (fun it => ?_) 35 0 (fun _ => 0) (by omega) (by omega)
  refine c_ext (g := fun i => some ((fun (c n : Nat) => if c = 9 then h else if c = 48 then q1 else if c = 49 then q2 else if c = 50 then q3 else if c = 51 then q5 else if c = 52 then q6 else if c = 3 then (if n = 69 then aT 3 69 else it (n - 34)) else aT c n) 3 (34 * 1 + i))) (fun j hj => ?_) ?_
  · show (if j < 34 then some (it j) else none) = some (if 34 * 1 + j = 69 then aT 3 69 else it (34 * 1 + j - 34))
    rw [if_pos hj, if_neg (by omega)]
    congr 2
    omega
  · refine c_ret hX 83 ⟨fun (c n : Nat) => if c = 9 then h else if c = 48 then q1 else if c = 49 then q2 else if c = 50 then q3 else if c = 51 then q5 else if c = 52 then q6 else if c = 3 then (if n = 69 then aT 3 69 else it (n - 34)) else aT c n, List.forall_mem_cons.mpr ⟨rfl, fun _ h => absurd h List.not_mem_nil⟩, ?_⟩ (Nat.le_of_ble_eq_true rfl) (Nat.le_of_ble_eq_true rfl) dX10_init_83
    have hc8 : aT 8 1 = q4 := hc (8, 1, q4) List.mem_cons_self
    rw [← hc8]
    rfl
