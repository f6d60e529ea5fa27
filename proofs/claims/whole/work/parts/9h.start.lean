/-! THE LAW: its loop, its start -/
theorem inst0 : Cond.instantiable RX0 7 ∈ lw_tbl := List.mem_append_right _ (List.mem_of_getElem? (i := 265) (by decide +kernel))
theorem inst1 : Cond.instantiable RX1 8 ∈ lw_tbl := List.mem_append_right _ (List.mem_of_getElem? (i := 231) (by decide +kernel))
theorem inst2 : Cond.instantiable RX2 5 ∈ lw_tbl := List.mem_append_right _ (List.mem_of_getElem? (i := 301) (by decide +kernel))
theorem inst3 : Cond.instantiable RX3 6 ∈ lw_tbl := List.mem_append_right _ (List.mem_of_getElem? (i := 39) (by decide +kernel))
theorem inst4 : Cond.instantiable RX4 17 ∈ lw_tbl := List.mem_append_right _ (List.mem_of_getElem? (i := 167) (by decide +kernel))
theorem inst6 : Cond.instantiable RX6 4 ∈ lw_tbl := List.mem_append_right _ (List.mem_of_getElem? (i := 330) (by decide +kernel))
theorem inst7 : Cond.instantiable RX7 12 ∈ lw_tbl := List.mem_append_right _ (List.mem_of_getElem? (i := 116) (by decide +kernel))
theorem inst8 : Cond.instantiable RX8 3 ∈ lw_tbl := List.mem_append_right _ (List.mem_of_getElem? (i := 343) (by decide +kernel))
theorem inst9 : Cond.instantiable RX9 4 ∈ lw_tbl := List.mem_append_right _ (List.mem_of_getElem? (i := 33) (by decide +kernel))
theorem inst10 : Cond.instantiable RX10 8 ∈ lw_tbl := List.mem_append_right _ (List.mem_of_getElem? (i := 27) (by decide +kernel))
theorem inst11 : Cond.instantiable RX11 9 ∈ lw_tbl := List.mem_append_right _ (List.mem_of_getElem? (i := 19) (by decide +kernel))
theorem inst12 : Cond.instantiable RX12 40 ∈ lw_tbl := List.mem_append_right _ (List.mem_of_getElem? (i := 980) (by decide +kernel))
theorem lk_c11 : Cond.classLink RL 7 RX11 ∈ lw_tbl := List.mem_append_right _ (List.mem_of_getElem? (i := 18) (by decide +kernel))
theorem lk_i11 : Cond.initialized RX11 ∈ lw_tbl := List.mem_append_right _ (List.mem_of_getElem? (i := 1) (by decide +kernel))
theorem lk_m11 : Cond.methodLink RL 9 yX11_init ∈ lw_tbl := List.mem_append_right _ (List.mem_of_getElem? (i := 20) (by decide +kernel))
theorem lk_n11 : Cond.instanceMethod yX11_init ∈ lw_tbl := List.mem_append_right _ (List.mem_of_getElem? (i := 21) (by decide +kernel))
theorem lk_c12 : Cond.classLink RL 10 RX12 ∈ lw_tbl := List.mem_append_right _ (List.mem_of_getElem? (i := 979) (by decide +kernel))
theorem lk_i12 : Cond.initialized RX12 ∈ lw_tbl := List.mem_append_right _ (List.mem_of_getElem? (i := 13) (by decide +kernel))
theorem lk_m12 : Cond.methodLink RL 12 yX12_init ∈ lw_tbl := List.mem_append_right _ (List.mem_of_getElem? (i := 981) (by decide +kernel))
theorem lk_n12 : Cond.instanceMethod yX12_init ∈ lw_tbl := List.mem_append_right _ (List.mem_of_getElem? (i := 982) (by decide +kernel))
theorem ac_int : Cond.arrayClass .int ∈ lw_tbl := List.mem_append_right _ (List.mem_of_getElem? (i := 67) (by decide +kernel))
theorem ac_byte : Cond.arrayClass .byte ∈ lw_tbl := List.mem_append_right _ (List.mem_of_getElem? (i := 68) (by decide +kernel))
theorem ac_boolean : Cond.arrayClass .boolean ∈ lw_tbl := List.mem_append_right _ (List.mem_of_getElem? (i := 165) (by decide +kernel))
theorem ac_long : Cond.arrayClass .long ∈ lw_tbl := List.mem_append_right _ (List.mem_of_getElem? (i := 263) (by decide +kernel))
theorem ao_it : Cond.arrayOver (.object RX3) ∈ lw_tbl := List.mem_append_right _ (List.mem_of_getElem? (i := 85) (by decide +kernel))
set_option maxRecDepth 100000 in
theorem nw_m : ∀ w ∈ nwM.map (fun q => Cond.methodLinkNest q.1 q.2.1 q.2.2.1 q.2.2.2), w ∈ tables_1 := in_ix [34, 40, 86, 117, 168, 266, 344, 443, 464, 465, 468, 487, 517, 518, 563, 590, 641, 684, 866] (by decide +kernel)
set_option maxRecDepth 100000 in
theorem nw_d : ∀ w ∈ nwD.map Cond.declares, w ∈ tables_1 := in_ix [852, 868, 881, 897] (by decide +kernel)
theorem nws_law {args : Array Value} {s : State} (h : ∀ w ∈ lw_tbl, w.before args s = true) : NWs s := ⟨fun q hq => va_Nw.of rfl (h _ (List.mem_append_right _ (nw_m _ (List.mem_map.mpr ⟨q, hq, rfl⟩)))), fun x hx => va_Nw.of rfl (h _ (List.mem_append_right _ (nw_d _ (List.mem_map.mpr ⟨x, hx, rfl⟩))))⟩
def fLaw (F : Nat) (xs : Nat → Int32) (L : Nat) : Nat → Int32 → St → Option LR
  | 0, _, _ => none
  | n + 1, x3, S => if (Int32.ofNat L - 7) < x3 then fL_end S else fL_op F xs x3 (xs x3.toNatClampNeg &&& 63) (fLaw F xs L n (x3 + 7)) S
theorem lt7 {L i : Nat} (hL : L ≤ 3584) (hi : i ≤ L) : ((Int32.ofNat L - 7) < nI i) ↔ L < i + 7 := by
  have h1 : (Int32.ofNat L - 7).toInt = (L : Int) - 7 := pk_sub_toInt (a := L) (b := 7) (by omega) (by decide)
  rw [t_lt, h1, t_nI (by omega)]
  omega
set_option maxRecDepth 100000 in
set_option maxHeartbeats 1000000 in
theorem t_loop {ad : Nat → Nat → Nat} (X : Ctx) {RQ : LR → Room × (State → Prop)} {fc : LR → Nat} {b L : Nat} {xs : Nat → Int32} (hXS : XS X b L xs) (F : Nat) (hL : L ≤ 3584) (hend : ∀ (γ : Nat → Nat) (S : St) (x3 : Int32), JJ X ad γ RQ fc 11 426 cL_law 4 RL wsL ret (fL_end S) S 1799 [(0, .ref b), (1, .ref (ad 10 0)), (2, .ref (ad 11 0)), (3, .int x3)] []) : ∀ n (γ : Nat → Nat) (i : Nat) (S : St), i ≤ L → JJ X ad γ RQ fc 11 426 cL_law 4 RL wsL ret (fLaw F xs L n (nI i) S) S 18 [(0, .ref b), (1, .ref (ad 10 0)), (2, .ref (ad 11 0)), (3, .int (nI i))] [] := by
  intro n
  induction n with
  | zero => intro _ _ _ _; exact j_none
  | succ n ih =>
    intro γ i S hi
    rw [show fLaw F xs L (n + 1) (nI i) S = if (Int32.ofNat L - 7) < nI i then fL_end S else fL_op F xs (nI i) (xs (nI i).toNatClampNeg &&& 63) (fLaw F xs L n (nI i + 7)) S from rfl]
    refine j_iload_n 18 3 dL_law_18 rfl rfl ?_
    refine j_aload_n 19 0 dL_law_19 rfl rfl ?_
    refine j_slen hXS 20 dL_law_20 ?_
    refine j_bipush (v := 7) 21 dL_law_21 (by decide) ?_
    refine j_isub 23 dL_law_23 ?_
    refine j_icmp_gt 24 1799 dL_law_24 (by decide) (fun _ => hend γ S _) (fun c => ?_)
    have h7 : i + 7 ≤ L := by
      have hn : ¬ L < i + 7 := fun z => c ((lt7 hL hi).mpr z)
      omega
    have hin : ∀ j : Int32, 0 ≤ j → j ≤ 6 → vp_in (nI i + j) L := fun j h0 h6 => by
      have g0 := (t_le _ _).mp h0
      have g6 := (t_le _ _).mp h6
      rw [show (0 : Int32).toInt = 0 by decide] at g0
      rw [show (6 : Int32).toInt = 6 by decide] at g6
      obtain ⟨k, hk, rfl, hk2⟩ := rng_nI (p := j) (n := 6) g0 (by omega)
      rw [nI_add]
      exact vp_in_nI (by omega) (by omega)
    refine j_aload_n 27 0 dL_law_27 rfl rfl ?_
    refine j_iload_n 28 3 dL_law_28 rfl rfl ?_
    refine j_sld hXS 29 (vp_in_nI (by omega) (by omega)) dL_law_29 ?_
    refine j_bipush (v := 63) 30 dL_law_30 (by decide) ?_
    refine j_iand 32 dL_law_32 ?_
    refine tL_op X hXS F (nI i) _ hin _ (fun γ S => ?_) γ S
    have e7 : nI i + 7 = nI (i + 7) := nI_add i 7
    rw [e7]
    refine j_iinc (v := nI (i + 7)) (lv2 := [(3, .int (nI (i + 7))), (0, .ref b), (1, .ref (ad 10 0)), (2, .ref (ad 11 0))]) 1793 3 dL_law_1793 rfl (by rw [show Int32.ofInt 7 = nI 7 by decide]; exact nI_add i 7) (by decide) rfl ?_
    refine j_goto 1796 18 dL_law_1796 (by decide) ?_
    refine j_sub [1, 2, 3, 0] rfl ?_
    exact ih γ (i + 7) S h7
theorem sL_op {S : St} (h : Inv S) (F : Nat) (hF : 2000000000 ≤ F) (xs : Nat → Int32) (x3 op : Int32) (rec : St → Option LR) (hrec : ∀ S, Inv S → ∃ o, rec S = some o) : ∃ o, fL_op F xs x3 op rec S = some o := by
  unfold fL_op
  by_cases h0 : op = 0
  · rw [if_pos h0]; exact sL_0 h F hF _ _ _ _ rec hrec
  rw [if_neg h0]
  by_cases h1 : op = 1
  · rw [if_pos h1]; exact sL_1 h F hF _ _ _ _ rec hrec
  rw [if_neg h1]
  by_cases h2 : op = 2
  · rw [if_pos h2]; exact sL_2 h F hF _ rec hrec
  rw [if_neg h2]
  by_cases h3 : op = 3
  · rw [if_pos h3]; exact sL_3 h F hF _ rec hrec
  rw [if_neg h3]
  by_cases h4 : op = 4
  · rw [if_pos h4]; exact sL_4 h F hF _ rec hrec
  rw [if_neg h4]
  by_cases h5 : op = 5
  · rw [if_pos h5]; exact sL_5 h F hF _ _ _ rec hrec
  rw [if_neg h5]
  by_cases h6 : op = 6
  · rw [if_pos h6]; exact sL_6 h F hF _ _ _ _ _ rec hrec
  rw [if_neg h6]
  by_cases h7 : op = 7
  · rw [if_pos h7]; exact sL_7 h F hF _ _ _ _ _ rec hrec
  rw [if_neg h7]
  by_cases h8 : op = 8
  · rw [if_pos h8]; exact sL_8 h F hF _ _ _ rec hrec
  rw [if_neg h8]
  by_cases h9 : op = 9
  · rw [if_pos h9]; exact sL_9 h F hF _ _ rec hrec
  rw [if_neg h9]
  by_cases h10 : op = 10
  · rw [if_pos h10]; exact sL_10 h F hF _ _ _ rec hrec
  rw [if_neg h10]
  by_cases h11 : op = 11
  · rw [if_pos h11]; exact sL_11 h F hF _ _ _ rec hrec
  rw [if_neg h11]
  by_cases h12 : op = 12
  · rw [if_pos h12]; exact sL_12 h F hF _ _ rec hrec
  rw [if_neg h12]
  by_cases h13 : op = 13
  · rw [if_pos h13]; exact sL_13 h F hF _ _ rec hrec
  rw [if_neg h13]
  by_cases h14 : op = 14
  · rw [if_pos h14]; exact sL_14 h F hF _ _ _ _ rec hrec
  rw [if_neg h14]
  by_cases h15 : op = 15
  · rw [if_pos h15]; exact sL_15 h F hF _ _ rec hrec
  rw [if_neg h15]
  by_cases h16 : op = 16
  · rw [if_pos h16]; exact sL_16 h F hF _ _ rec hrec
  rw [if_neg h16]
  by_cases h17 : op = 17
  · rw [if_pos h17]; exact sL_17 h F hF _ rec hrec
  rw [if_neg h17]
  by_cases h18 : op = 18
  · rw [if_pos h18]; exact sL_18 h F hF _ _ _ rec hrec
  rw [if_neg h18]
  by_cases h19 : op = 19
  · rw [if_pos h19]; exact sL_19 h F hF _ _ _ rec hrec
  rw [if_neg h19]
  by_cases h20 : op = 20
  · rw [if_pos h20]; exact sL_20 h F hF _ _ _ rec hrec
  rw [if_neg h20]
  by_cases h21 : op = 21
  · rw [if_pos h21]; exact sL_21 h F hF _ _ _ _ rec hrec
  rw [if_neg h21]
  by_cases h22 : op = 22
  · rw [if_pos h22]; exact sL_22 h F hF _ rec hrec
  rw [if_neg h22]
  by_cases h23 : op = 23
  · rw [if_pos h23]; exact sL_23 h F hF _ rec hrec
  rw [if_neg h23]
  by_cases h24 : op = 24
  · rw [if_pos h24]; exact sL_24 h F hF _ _ _ rec hrec
  rw [if_neg h24]
  by_cases h25 : op = 25
  · rw [if_pos h25]; exact sL_25 h F hF _ rec hrec
  rw [if_neg h25]
  by_cases h26 : op = 26
  · rw [if_pos h26]; exact sL_26 h F hF _ _ _ rec hrec
  rw [if_neg h26]
  by_cases h27 : op = 27
  · rw [if_pos h27]; exact sL_27 h F hF _ _ _ rec hrec
  rw [if_neg h27]
  by_cases h28 : op = 28
  · rw [if_pos h28]; exact sL_28 h F hF _ _ rec hrec
  rw [if_neg h28]
  by_cases h29 : op = 29
  · rw [if_pos h29]; exact sL_29 h F hF _ _ _ _ _ _ rec hrec
  rw [if_neg h29]
  by_cases h30 : op = 30
  · rw [if_pos h30]; exact sL_30 h F hF _ rec hrec
  rw [if_neg h30]
  by_cases h31 : op = 31
  · rw [if_pos h31]; exact sL_31 h F hF _ _ rec hrec
  rw [if_neg h31]
  by_cases h32 : op = 32
  · rw [if_pos h32]; exact sL_32 h F hF _ _ rec hrec
  rw [if_neg h32]
  by_cases h33 : op = 33
  · rw [if_pos h33]; exact sL_33 h F hF _ _ _ rec hrec
  rw [if_neg h33]
  by_cases h34 : op = 34
  · rw [if_pos h34]; exact sL_34 h F hF _ _ rec hrec
  rw [if_neg h34]
  by_cases h35 : op = 35
  · rw [if_pos h35]; exact sL_35 h F hF _ _ _ rec hrec
  rw [if_neg h35]
  by_cases h36 : op = 36
  · rw [if_pos h36]; exact sL_36 h F hF _ _ rec hrec
  rw [if_neg h36]
  by_cases h37 : op = 37
  · rw [if_pos h37]; exact sL_37 h F hF _ rec hrec
  rw [if_neg h37]
  by_cases h38 : op = 38
  · rw [if_pos h38]; exact sL_38 h F hF _ _ _ rec hrec
  rw [if_neg h38]
  by_cases h39 : op = 39
  · rw [if_pos h39]; exact sL_39 h F hF _ rec hrec
  rw [if_neg h39]
  exact hrec S h
theorem s_loop {F L : Nat} (hF : 2000000000 ≤ F) (hL : L ≤ 3584) (xs : Nat → Int32) : ∀ n i (S : St), Inv S → i ≤ L → L < i + n → ∃ o, fLaw F xs L n (nI i) S = some o := by
  intro n
  induction n with
  | zero => intro i S _ h1 h2; omega
  | succ n ih =>
    intro i S h h1 h2
    rw [show fLaw F xs L (n + 1) (nI i) S = if (Int32.ofNat L - 7) < nI i then fL_end S else fL_op F xs (nI i) (xs (nI i).toNatClampNeg &&& 63) (fLaw F xs L n (nI i + 7)) S from rfl]
    by_cases c : (Int32.ofNat L - 7) < nI i
    · rw [if_pos c]
      obtain ⟨ns, nc, np, ny, nb, nh, nd, nk, Z, C, P, Y, B, H, D, K, nv, nn, ni, V, E, Tx, hC, _⟩ := h
      exact ⟨⟨S, hC.2⟩, dif_pos hC.2⟩
    · rw [if_neg c]
      have h7 : i + 7 ≤ L := by
        have hn : ¬ L < i + 7 := fun z => c ((lt7 hL h1).mpr z)
        omega
      have e7 : nI i + 7 = nI (i + 7) := nI_add i 7
      rw [e7]
      exact sL_op h F hF xs _ _ _ (fun S hS => ih (i + 7) S hS h7 (by omega))
theorem Inv0 : Inv S0 := by
  refine ⟨0, 0, 0, 0, 0, 0, 0, 0, fun _ _ => 0, fun _ _ => 0, fun _ _ => 0, fun _ _ => 0, fun _ _ => 0, fun _ _ => 0, fun _ _ => 0, fun _ _ => 0, fun _ => 0, fun _ => 0, fun _ => 0, fun _ _ _ => 0, fun _ _ _ => 0, fun _ _ => 0, ⟨by decide, by decide⟩, ⟨by omega, rfl, rfl, fun i hi => by omega⟩, ⟨by omega, rfl, rfl, fun i hi => by omega⟩, ⟨by omega, rfl, rfl, fun i hi => by omega⟩, ⟨by omega, rfl, rfl, fun i hi => by omega⟩, ⟨by omega, rfl, rfl, fun i hi => by omega, fun i _ hi => ?_⟩, ⟨by omega, rfl, rfl, fun i hi => by omega⟩, ⟨by omega, rfl, rfl, fun i hi => by omega⟩, ⟨by omega, rfl, rfl, fun i hi => by omega⟩, fun t ht => ⟨Nat.zero_le _, rfl, rfl, fun i hi => absurd hi (Nat.not_lt_zero i)⟩, fun t ht => ⟨Nat.zero_le _, rfl, rfl, fun i hi => absurd hi (Nat.not_lt_zero i)⟩, fun t ht => ⟨Nat.zero_le _, rfl, rfl, fun i hi => absurd hi (Nat.not_lt_zero i)⟩⟩
  show (if i < 12 then (-1 : Int32) else 0) = -1
  rw [if_pos hi]
def R_law : String := "TwoTonguesLaw"
def lw_P (b : Addr) (xs : List Int32) (args : Array Value) (s : State) : Prop := args = #[.ref b] ∧ s.IntsAt b xs ∧ xs.length ≤ 3584 ∧ (Jvm.Cond.and given_1 narrow_1).before args s = true
def lw_Q (_ : Array Value) (s : State) (o : Outcome) (t : State) : Prop := o = .returned (some (.int 1)) ∧ Framed s o t [] 600000 7302250
def lw_Z (below : List Frame) (a : Array Value) (s : State) : State → Prop := fun t => ∃ o, t.status = .running ∧ Ended t below o ∧ lw_Q a s o t
/-- the law's own end, with 1 on the stack, nothing written that was there before, its room as the claim has it -/
theorem lw_ret {p : Program} {l : Launch} {e : Env} {s : State} {m : MethodId} {below : List Frame} {meth : Method} {c : Code} {b : Nat} (hx : p.tables.exec = Jvm.exec) (hb : c.code = code) (hr : meth.sig.returnType = ret) (hlocks : meth.locks = false) {pc : Nat} {H : Heap} {ls : Array Slot} (hdg : decode code pc = .ok (.ireturn, 1)) : W p l e room_1 s m #[Value.ref b] below meth c H [] 600000 7302250 (lw_Z below #[Value.ref b] s) (F0 m pc ls [.int 1]) := by
  intro T hT X
  obtain ⟨fs, hret, hrun, hended, hW, hframe⟩ := X.leave (v := some (.int 1)) (hlocks := hlocks) (fun h => by rw [hr] at h; cases h)
  have hmeth' : T.vm.method? m = some meth := X.method'
  refine ⟨T.setFrames fs, ?_, .returned (some (.int 1)), hrun, hended, rfl, ⟨_, rfl⟩, hW, hframe⟩
  jvm_step X.here [X.here.top, hx, hb, hdg, hmeth', hr, ret, narrow_b1]
  (try refine ⟨rfl, ?_⟩); (try refine ⟨rfl, ?_⟩)
  first | (intro acts; rw [hret _ acts rfl rfl rfl]) | rw [hret _ _ rfl rfl rfl]
  exact Steps.refl _
/-- what holds at the law's entry: the machine, the code, the tables' words (any of lw_tbl by 'hts w (by decide +kernel)'), the script of L ints xs at the cell b, what the Statement gives of the start (any of its parts by flat_of_before) -/
def lw_At (p : Program) (s : State) (m : MethodId) (meth : Method) (c : Code) (b L : Nat) (xs : Nat → Int32) : Prop :=
  p.tables.exec = Jvm.exec ∧ c.code = code ∧ meth.sig.returnType = ret ∧ c.maxLocals = 4 ∧ s.vm.findClass R_law = some m.cls ∧ (∀ w ∈ lw_tbl, w.before #[Value.ref b] s = true) ∧ va_X b L xs s s.heap ∧ b < s.heap.size ∧ meth.locks = false ∧ (Jvm.Cond.and given_1 narrow_1).before #[Value.ref b] s = true
set_option maxHeartbeats 4000000 in
set_option maxRecDepth 100000 in
theorem law_end {ad : Nat → Nat → Nat} {p : Program} {l : Launch} {e : Env} {s : State} {m : MethodId} {below : List Frame} {meth : Method} {c : Code} {dC : Nat → ClassId} {dI : Nat → Nat → Nat} {cy : Nat → ClassId} {b : Nat} (γ : Nat → Nat) (S : St) (x3 : Int32) : JJ (p, l, e, s, m, #[Value.ref b], below, meth, c, dC, dI, cy, (fun q : Nat => s.heap.size ≤ q), 32, 163, 7637) ad γ (fun _ : LR => (room_1, lw_Z below #[Value.ref b] s)) (fun o => gC o.1) 11 426 cL_law 4 RL wsL ret (fL_end S) S 1799 [(0, .ref b), (1, .ref (ad 10 0)), (2, .ref (ad 11 0)), (3, .int x3)] [] := by
  intro o ho
  have hle : gC S ≤ 32768 ∧ gC S ≤ gC o.1 := by
    unfold fL_end at ho
    by_cases hh : gC S ≤ 32768
    · rw [dif_pos hh] at ho
      rw [← Option.some.inj ho]
      exact ⟨hh, Nat.le_refl _⟩
    · rw [dif_neg hh] at ho; cases ho
  refine ⟨hle.2, fun hX H locs ls hl hP hD hS hc => ?_⟩
  obtain ⟨hx, hb, hml, hown, hts, hK, hA, hlocks, hN, hR, hrt⟩ := hX
  refine lv_iconst (v := 1) hx hb dL_law_1799 (by decide) ?_
  refine va_forget (fun q hq => hS.2.2 q hq) ?_
  refine W.widen (k := 600000) (n := 7302250) (by omega) (by omega) ?_
  exact lw_ret hx hb hrt hlocks dL_law_1800
set_option maxHeartbeats 4000000 in
set_option maxRecDepth 100000 in
theorem whole_start {p : Program} {e : Env} {s : State} {m : MethodId} {below : List Frame} {meth : Method} {c : Code} (l : Launch) {b L : Nat} {xs : Nat → Int32} (hL : L ≤ 3584) (C0 : lw_At p s m meth c b L xs) : W p l e room_1 s m #[Value.ref b] below meth c s.heap [] 0 0 (lw_Z below #[Value.ref b] s) (entryFrame m ([Value.ref b] : List Value).toArray 4) := by
  obtain ⟨hx, hb, hr, hml, hown, hts0, hX, hbl, hlocks, hgv⟩ := id C0
  have hts := hts_L hts0
  have hA : ∀ q : Nat, s.heap.size ≤ q → (fun q : Nat => s.heap.size ≤ q) q := fun _ h => h
  have hbA : ¬ (fun q : Nat => s.heap.size ≤ q) b := Nat.not_le.mpr hbl
  have hN : NWs s := nws_law hts0
  have hO : va_AO RX3 s := va_AO.of (hts0 _ ao_it)
  obtain ⟨k0, i0, hk0⟩ := u_known (C := RX0) (T := TX0) (N := 7) (n := 7) hts inlX0 (hts0 _ inst0)
  obtain ⟨k1, i1, hk1⟩ := u_known (C := RX1) (T := TX1) (N := 8) (n := 8) hts inlX1 (hts0 _ inst1)
  obtain ⟨k2, i2, hk2⟩ := u_known (C := RX2) (T := TX2) (N := 5) (n := 5) hts inlX2 (hts0 _ inst2)
  obtain ⟨k3, i3, hk3⟩ := u_known (C := RX3) (T := TX3) (N := 6) (n := 6) hts inlX3 (hts0 _ inst3)
  obtain ⟨k4, i4, hk4⟩ := u_known (C := RX4) (T := TX4) (N := 17) (n := 17) hts inlX4 (hts0 _ inst4)
  obtain ⟨k6, i6, hk6⟩ := u_known (C := RX6) (T := TX6) (N := 4) (n := 4) hts inlX6 (hts0 _ inst6)
  obtain ⟨k7, i7, hk7⟩ := u_known (C := RX7) (T := TX7) (N := 12) (n := 12) hts inlX7 (hts0 _ inst7)
  obtain ⟨k8, i8, hk8⟩ := u_known (C := RX8) (T := TX8) (N := 3) (n := 3) hts inlX8 (hts0 _ inst8)
  obtain ⟨k9, i9, hk9⟩ := u_known (C := RX9) (T := TX9) (N := 4) (n := 4) hts inlX9 (hts0 _ inst9)
  obtain ⟨k10, i10, hk10⟩ := u_known (C := RX10) (T := TX10) (N := 8) (n := 8) hts inlX10 (hts0 _ inst10)
  obtain ⟨k11, i11, hk11⟩ := u_known (C := RX11) (T := TX11) (N := 9) (n := 9) hts inlX11 (hts0 _ inst11)
  obtain ⟨k12, i12, hk12⟩ := u_known (C := RX12) (T := TX12) (N := 40) (n := 40) hts inlX12 (hts0 _ inst12)
  obtain ⟨dC, dI, hKc⟩ : ∃ (dC : Nat → ClassId) (dI : Nat → Nat → Nat), ∀ (k : Nat) (q : vw_C), clX[k]? = some q → u_Kn s q.1 q.2.1 q.2.2 (dC k) (dI k) := by
    refine ⟨fun k => if k = 0 then k0 else if k = 1 then k1 else if k = 2 then k2 else if k = 3 then k3 else if k = 4 then k4 else if k = 5 then k6 else if k = 6 then k7 else if k = 7 then k8 else if k = 8 then k9 else if k = 9 then k10 else if k = 10 then k11 else k12, fun k => if k = 0 then i0 else if k = 1 then i1 else if k = 2 then i2 else if k = 3 then i3 else if k = 4 then i4 else if k = 5 then i6 else if k = 6 then i7 else if k = 7 then i8 else if k = 8 then i9 else if k = 9 then i10 else if k = 10 then i11 else i12, ?_⟩
    intro k q hq
    match k, hq with
    | 0, hq => cases hq; exact hk0
    | 1, hq => cases hq; exact hk1
    | 2, hq => cases hq; exact hk2
    | 3, hq => cases hq; exact hk3
    | 4, hq => cases hq; exact hk4
    | 5, hq => cases hq; exact hk6
    | 6, hq => cases hq; exact hk7
    | 7, hq => cases hq; exact hk8
    | 8, hq => cases hq; exact hk9
    | 9, hq => cases hq; exact hk10
    | 10, hq => cases hq; exact hk11
    | 11, hq => cases hq; exact hk12
    | k + 12, hq => simp [clX] at hq
  obtain ⟨c1, z1, w1, f1, g1, y1⟩ := Cond.arrayClass_spec (hts0 _ ac_int)
  obtain ⟨c2, z2, w2, f2, g2, y2⟩ := Cond.arrayClass_spec (hts0 _ ac_byte)
  obtain ⟨c3, z3, w3, f3, g3, y3⟩ := Cond.arrayClass_spec (hts0 _ ac_boolean)
  obtain ⟨c4, z4, w4, f4, g4, y4⟩ := Cond.arrayClass_spec (hts0 _ ac_long)
  obtain ⟨w5, c5, z5, u5, _, g5, y5, f5⟩ := Cond.arrayOver_spec (hts0 _ ao_it)
  obtain ⟨cy, hcy⟩ : ∃ cy : Nat → ClassId, cy = fun k => if k = 0 then c1 else if k = 1 then c2 else if k = 2 then c3 else if k = 3 then c4 else c5 := ⟨_, rfl⟩
  have hK : va_K (dC, dI) clX (tyX cy) s := by
    refine ⟨hKc, fun k q hq => ?_⟩
    subst hcy
    match k, hq with
    | 0, hq => cases hq; exact ⟨fun n z => ⟨fun k h => (by cases h), z1, g1, w1, y1⟩, f1⟩
    | 1, hq => cases hq; exact ⟨fun n z => ⟨fun k h => (by cases h), z2, g2, w2, y2⟩, f2⟩
    | 2, hq => cases hq; exact ⟨fun n z => ⟨fun k h => (by cases h), z3, g3, w3, y3⟩, f3⟩
    | 3, hq => cases hq; exact ⟨fun n z => ⟨fun k h => (by cases h), z4, g4, w4, y4⟩, f4⟩
    | 4, hq => cases hq; exact ⟨fun n z => ⟨fun k h => (by cases h), z5, g5, w5, y5⟩, z5, w5, g5, y5, u5, f5⟩
    | k + 5, hq => simp [tyX] at hq
  clear hcy
  have hS : va_S (fun q : Nat => s.heap.size ≤ q) s.heap s.heap [] := va_S.rf
  have hP : va_P (dC, dI) clX [] s.heap := fun k q h => by simp at h
  have hD : va_D (fun q : Nat => s.heap.size ≤ q) [] := ⟨fun i j p q h => by simp at h, fun k q h => by simp at h⟩
  have hl := lv_entry ([.ref b]) (n := 4) (Nat.le_of_ble_eq_true rfl)
  rw [lg_entry_eq]
  generalize (lg_sl ([.ref b]) ++ List.replicate (4 - (lg_sl ([.ref b])).length) Slot.unset).toArray = ls at hl ⊢
  have hl : lv_has ls 4 [(0, .ref b)] := hl
  have fresh : ∀ {H : Heap} {locs : List Loc} {ws1 : va_W} {q : Nat} {e : va_E}, va_D (fun q : Nat => s.heap.size ≤ q) (ws1 ++ [(q, e)]) → va_S (fun q : Nat => s.heap.size ≤ q) s.heap H locs → ∀ z, va_A [(q, e)] H.size z → s.heap.size ≤ z := fun {H locs ws1 q e} hD hS z hz => by
    rcases hz with ⟨k2, e', hk2⟩ | hz
    · match k2, hk2 with
      | 0, hk2 =>
        have e0 : q = z := (Prod.mk.inj (Option.some.inj hk2)).1
        rw [← e0]
        exact hD.2 ws1.length (q, e) (by rw [List.getElem?_append_right (Nat.le_refl _)]; simp)
      | k2 + 1, hk2 => simp at hk2
    · exact Nat.le_trans hS.1 hz
  have one : ∀ {H : Heap} {ws1 : va_W} {q : Nat} {e : va_E}, va_P (dC, dI) clX (ws1 ++ [(q, e)]) H → va_P (dC, dI) clX [(q, e)] H := fun {H ws1 q e} hP k' q' h' => by
    match k', h' with
    | 0, h' =>
      have e0 : (q, e) = q' := Option.some.inj h'
      rw [← e0]; exact hP ws1.length _ (by rw [List.getElem?_append_right (Nat.le_refl _)]; simp)
    | k' + 1, h' => simp at h'
  refine va_new (ci := 10) (fs := [.null, .null, .null, .null, .null, .null, .null, .null, .null]) (C := RX11) (T := TX11) (N := 9) hx hb hts inlX11 tyX11 tyX11_ok hown (hts0 _ lk_c11) (hts0 _ inst11) (hts0 _ lk_i11) hK hP hD hS hA rfl dfX11 (Nat.le_of_ble_eq_true rfl) (Nat.le_of_ble_eq_true rfl) dL_law_0 (fun q0 H hP hD hS => ?_)
  refine lv_dup hx hb dL_law_3 rfl ?_
  have hF0 := fresh hD hS
  refine va_callv (va_runI (As := []) (rest := [.ref q0]) ⟨hx, hb, hml, hown, hts⟩ (kI11 q0 H.size) (cwI 0 hts gL_law_X11_init rfl rfl rfl (hts0 _ lk_i11) (hts0 _ lk_m11) (hts0 _ lk_n11) rfl eI11 ⟨Nat.le_of_ble_eq_true rfl, Nat.le_of_ble_eq_true rfl⟩) ⟨cti_blind, fun U hU hW => ⟨rfl, by rw [hU], by rw [hU]; exact one hP, va_K.moved hW.alike hK, va_D_one, hN.warm hW, va_AO.moved hW.alike hO⟩⟩ rfl rfl hl.1 rfl (lv_room (Nat.le_of_ble_eq_true rfl)) dL_law_4 ⟨Nat.le_of_ble_eq_true rfl, Nat.le_of_ble_eq_true rfl⟩) hS (fun q _ h => hF0 q h) hF0 (fun wA t H1 locs ht hvm hw hB hz1 hk1 hS => ?_)
  obtain ⟨hP1, hK1, hD1⟩ := hB
  rw [ht] at hP1
  obtain ⟨hP, hD⟩ := joined hP hD hk1 hF0 hP1 hD1
  refine lv_astore_n (lv' := [(1, .ref q0), (0, .ref b)]) hx hb dL_law_7 rfl hl (by decide) rfl (fun ls hl => ?_)
  refine va_new (ci := 11) (fs := [.null, .null, .null, .null, .null, .null, .int 0, .null, .null, .null, .null, .int 0, .null, .int 0, .null, .int 0, .null, .int 0, .null, .int 0, .null, .null, .null, .int 0, .null, .int 0, .null, .null, .int 0, .null, .null, .null, .null, .long 0, .int 0, .int 0, .null, .null, .null, .null]) (C := RX12) (T := TX12) (N := 40) hx hb hts inlX12 tyX12 tyX12_ok hown (hts0 _ lk_c12) (hts0 _ inst12) (hts0 _ lk_i12) hK hP hD hS hA rfl dfX12 (Nat.le_of_ble_eq_true rfl) (Nat.le_of_ble_eq_true rfl) dL_law_8 (fun q1 H2 hP hD hS => ?_)
  refine lv_dup hx hb dL_law_11 rfl ?_
  have hF1 := fresh hD hS
  refine va_callv (va_runI (As := []) (rest := [.ref q1]) ⟨hx, hb, hml, hown, hts⟩ (kI12 q1 H2.size) (cwI 0 hts gL_law_X12_init rfl rfl rfl (hts0 _ lk_i12) (hts0 _ lk_m12) (hts0 _ lk_n12) rfl eI12 ⟨Nat.le_of_ble_eq_true rfl, Nat.le_of_ble_eq_true rfl⟩) ⟨cti_blind, fun U hU hW => ⟨rfl, by rw [hU], by rw [hU]; exact one hP, va_K.moved hW.alike hK, va_D_one, hN.warm hW, va_AO.moved hW.alike hO⟩⟩ rfl rfl hl.1 rfl (lv_room (Nat.le_of_ble_eq_true rfl)) dL_law_12 ⟨Nat.le_of_ble_eq_true rfl, Nat.le_of_ble_eq_true rfl⟩) hS (fun q _ h => hF1 q h) hF1 (fun wB t2 H3 locs2 ht2 hvm2 hw2 hB2 hz2 hk2 hS => ?_)
  obtain ⟨hP2, hK2, hD2⟩ := hB2
  rw [ht2] at hP2
  obtain ⟨hP, hD⟩ := joined hP hD hk2 hF1 hP2 hD2
  obtain ⟨aM, hM, rfl⟩ := hw2
  rw [List.nil_append] at hP hD
  obtain ⟨a, ha10, ha11, hP, hD⟩ := made hw hP hD
  obtain ⟨hP, hD⟩ := made_wl hP hD
  have hq1 : aM 11 0 = q1 := hM (11, 0, q1) List.mem_cons_self
  refine lv_astore_n (lv' := [(2, .ref q1), (1, .ref q0), (0, .ref b)]) hx hb dL_law_15 rfl hl (by decide) rfl (fun ls hl => ?_)
  refine lv_iconst (v := 0) hx hb dL_law_16 (by decide) ?_
  refine lv_istore_n (lv' := [(3, .int 0), (2, .ref q1), (1, .ref q0), (0, .ref b)]) hx hb dL_law_17 rfl hl (by decide) rfl (fun ls hl => ?_)
  have hl2 : lv_has ls 4 [(0, .ref b), (1, .ref (a 10 0)), (2, .ref (a 11 0)), (3, .int (nI 0))] := by
    rw [ha10, ha11, hq1]; exact lv_sub hl [3, 2, 1, 0] rfl
  obtain ⟨o, ho⟩ := s_loop (F := 2000000000) (Nat.le_refl _) hL xs (L + 1) 0 S0 Inv0 (Nat.zero_le _) (by omega)
  obtain ⟨_, hJ⟩ := t_loop (ad := a) (p, l, e, s, m, #[Value.ref b], below, meth, c, dC, dI, cy, (fun q : Nat => s.heap.size ≤ q), 32, 163, 7637) (RQ := fun _ : LR => (room_1, lw_Z below #[Value.ref b] s)) (fc := fun o => gC o.1) (xs := xs) ⟨hX, hbl, hbA⟩ 2000000000 hL (fun γ S x3 => law_end γ S x3) (L + 1) (fun j => a (82 + j) 0) 0 S0 (Nat.zero_le _) o ho
  have hW := hJ ⟨hx, hb, hml, hown, hts, hK, hA, hlocks, hN, fun o => ⟨rfl, rfl, by have := o.2; show 163 + 6 * (gC o.1 - 32) ≤ 600000; omega, by have := o.2; show 7637 + 6 * (gC o.1 - 32) ≤ 7302250; omega⟩, hr⟩ H3 locs2 ls hl2 hP hD hS (Nat.le_refl 32)
  exact W.cs (cells' := 163 + 6 * (gC S0 - 32)) (slots' := 7637 + 6 * (gC S0 - 32)) rfl rfl hW

set_option maxHeartbeats 4000000 in
theorem lw_walk (l : Launch) (b : Addr) (xs : List Int32) : MetFree l x (headSpec (Jvm.Cond.code x code maxLocals ret :: tables_1) room_1) (lw_P b xs) (fun _ _ _ _ _ => True) lw_Q := by
  refine MetFree.of_bodyS (code := code) (maxLocals := maxLocals) (ret := ret) (by decide) ?_ ?_
  · intro args s m h hn
    obtain ⟨meth, c, h1, h2, h3, h4, h5, h6, -, -⟩ := Cond.code_spec hn (atoms_spec (ws := Jvm.Cond.code x code maxLocals ret :: tables_1) h _ List.mem_cons_self)
    exact ⟨meth, c, h1, h2, h3, h4, h5, h6⟩
  · intro p e s m args below meth c s₁ B hml0 hP _
    obtain ⟨rfl, hx, hbd, hgv⟩ := hP
    obtain ⟨scr, harrAt, hlist, hof, hsmall⟩ := hx
    obtain ⟨hcb, hkn, -, -⟩ := State.arrayAt?_spec harrAt
    have hown : s.vm.findClass R_law = some m.cls := findClass_of_methodNamed B.named
    have hts0 : ∀ c ∈ (Jvm.Cond.code x code maxLocals ret :: tables_1), c.before #[Value.ref b] s = true := atoms_spec (ws := Jvm.Cond.code x code maxLocals ret :: tables_1) B.pre
    have hts : ∀ w ∈ lw_tbl, w.before #[Value.ref b] s = true := k2_hts_sels lw_privs (fun w hw => hts0 w (List.mem_cons_of_mem _ hw)) lw_privs_ok
    have hml : c.maxLocals = 4 := B.maxLocals_eq (hts0 _ List.mem_cons_self)
    have X₀ : Stand p l e room_1 s m #[Value.ref b] below meth c s₁ [] 0 0 := Stand.of_body B
    have hh0 : s₁.heap = s.heap := by rw [B.state]; rfl
    have hsz : scr.slots.size = xs.length := by rw [← Array.length_toList, hlist, List.length_map]
    have hval : ∀ j : Nat, j < xs.length → scr.slots[j]? = some (.int (xs.getD j 0)) := fun j hj => by
      rw [← Array.getElem?_toList, hlist]
      simp [hj]
    have hbl : b < s.heap.size := (Array.getElem?_eq_some_iff.mp hcb).1
    have hX : va_X b xs.length (fun j => xs.getD j 0) s s.heap := ⟨scr, hcb, hof, hkn, hsz, hval⟩
    have K : W p l e room_1 s m #[Value.ref b] below meth c s₁.heap [] 0 0 (lw_Z below #[Value.ref b] s) (entryFrame m ([Value.ref b] : List Value).toArray 4) := by
      rw [hh0]
      exact whole_start l hbd ⟨B.exec, B.bytes, B.returns, hml, hown, hts, hX, hbl, B.notSynchronized, hgv⟩
    obtain ⟨t, a1, o, b1, b2, b3⟩ := K s₁ rfl X₀
    exact ⟨t, o, a1, b1, b2, b3⟩
theorem lw_pre_spec {args : Array Value} {s : State} (h : (Jvm.Cond.and given_1 narrow_1).before args s = true) (hr : rest_1_c.before args s = true) : ∃ (b : Addr) (xs : List Int32), lw_P b xs args s := by
  have hs := flat_of_before _ h
  have hq := flat_of_before _ hr
  have hc : (Cond.count 1).before args s = true := hs _ (by decide +kernel)
  have harr : (Cond.arrayOf (.arg 0) .int).before args s = true := hs _ (by decide +kernel)
  have hle : (Cond.le (.length (.arg 0)) (.int 3584)).before args s = true := hs _ (by decide +kernel)
  have hlen : (Cond.isInt (.length (.arg 0))).before args s = true := hq _ (by decide +kernel)
  have hall : (Cond.all (.arg 0) (.isInt (.elem (.arg 0) (.index 0)))).before args s = true := hq _ (by decide +kernel)
  obtain ⟨b, xs, hb, hx⟩ := State.ints_of_pre rfl harr hlen hall
  have hsm : xs.length < 2 ^ 31 := hx.choose_spec.2.2.2
  have hev : (Term.length (.arg 0)).eval args s none [] s = some (.int xs.length.toInt32) := hx.length_eval hb
  have hv := Cond.le_ints hev (show (Term.int 3584).eval args s none [] s = some (.int 3584) from rfl)
  have hd : xs.length.toInt32 ≤ 3584 := by
    simpa [Cond.before, Cond.holds, hv] using hle
  have hN : xs.length ≤ 3584 := (Int32.ofNat_le_ofNat hsm (by decide)).mp (show Int32.ofNat xs.length ≤ Int32.ofNat 3584 from hd)
  exact ⟨b, xs, Cond.one_arg hc (show args[0]? = some (.ref b) from hb), hx, hN, h⟩
theorem lw_comes (l : Launch) : Comes l x (Jvm.Cond.code x code maxLocals ret :: tables_1) room_1 (fun tb e args s => Calls_1 tb e args s ∧ rest_1 tb e args s ∧ Pre_1 tb e args s)
    (fun _ _ args s o t => lw_Q args s o t) := by
  intro p e ha hc hk s m args below hf hfit hheap happ hpre
  obtain ⟨b, xs, hP⟩ := lw_pre_spec hpre.2.2 hpre.2.1
  obtain ⟨k, o, h1, h2, h3, hQ⟩ := lw_walk l b xs p e ha hc hk s m args below hf ((Spec.applies_iff_loose hf).mp happ).1 hP trivial
  exact ⟨k, o, h1, h2, h3, hQ⟩
theorem lw_frame {s t : State} {o : Outcome} {args : Array Value} (h : Framed s o t [] 600000 7302250) :
    Framed s o t (fieldLocs frame_1_writes args s ++ arrayLocs frame_1_arrays args s ++ staticLocs frame_1_statics s) 600000 7302250 := h
theorem lw_limb (L : Cond) (hL : ∀ (args : Array Value) (s t : State), L.after args s (.returned (some (.int 1))) t = true) :
    ArmFor flags0 classFile x code maxLocals ret World_1 tables_1 room_1 Calls_1 rest_1 Pre_1
      (fun tb e a s o t => postC L tb e a s o t ∧ Framed s o t (fieldLocs frame_1_writes a s ++ arrayLocs frame_1_arrays a s ++ staticLocs frame_1_statics s) 600000 7302250) := by
  intro l _ _ _ p e ha hc hk s m args below hf hfit hheap happ hpre
  obtain ⟨k, o, h1, h2, h3, rfl, hF⟩ := lw_comes l p e ha hc hk s m args below hf hfit hheap happ hpre
  exact ⟨k, _, h1, h2, h3, hL args s _, lw_frame hF⟩
theorem i_vc : Claimed_1_1 ∧ Claimed_1_2 := ⟨lw_limb limb_1_1 (fun args s t => by simp [limb_1_1, Cond.after, Cond.holds, Cond.value]), lw_limb limb_1_2 (fun args s t => Cond.after_iff.mpr (by
  first | (rw [show limb_1_2 = Cond.eq .result (.int 1) from rfl, Cond.eq_ints (x := 1) (y := 1) rfl rfl]; simp; done) | (simp [limb_1_2, Cond.value, Term.eval]; done)))⟩

