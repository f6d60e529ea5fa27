/-! CONSTRUCTORS: rows over a world that grows -/
/-- the numbers of what is new -/
def S0 : St := (fun c _ k => if c = 5 then (if k = 3 then 1 else 0) else 0, fun _ _ _ => 0, fun c _ => if c = 68 then (fun i => if i < 12 then -1 else 0) else (fun _ => 0), fun _ _ _ => 0, 32)
def cel (cy : Nat → ClassId) (a : Nat → Nat → Nat) (q : Nat × Nat) : Nat × va_E := (a q.1 q.2, co cy a (fun j => a (82 + j) 0) S0 q.1 q.2)
def COk (X : Ctx) (cc : ByteArray) (nL : Nat) (own : String) (Ts : List Cond) : Prop := match X with
  | (p, _, _, s, m, args, _, meth, c, dC, dI, cy, A, _, _, _) => p.tables.exec = Jvm.exec ∧ c.code = cc ∧ c.maxLocals = nL ∧ s.vm.findClass own = some m.cls ∧ (∀ w ∈ Ts, w.before args s = true) ∧ va_K (dC, dI) clX (tyX cy) s ∧ (∀ q, s.heap.size ≤ q → A q) ∧ meth.locks = false ∧ NWs s ∧ va_AO RX3 s ∧ meth.name = "<init>" ∧ meth.sig.returnType = none
def CJ (X : Ctx) (R : Room) (Q : State → Prop) (nL : Nat) (ws : va_W) (cells slots pc : Nat) (lv : List (Nat × Value)) (st : List Value) : Prop := match X with
  | (p, l, e, s, m, args, below, meth, c, dC, dI, _, A, _, _, _) => ∀ (H : Heap) (locs : List Loc) (ls : Array Slot), lv_has ls nL lv → va_P (dC, dI) clX ws H → va_D A ws → va_S A s.heap H locs → W p l e R s m args below meth c H locs cells slots Q (F0 m pc ls st)
def CTI (l : Launch) (dC : Nat → ClassId) (dI : Nat → Nat → Nat) (cy : Nat → ClassId) (y : MethodName) (ws : List Cond) (fr lo mc ms h ci : Nat) (fs0 As : List Value) (Post : va_W → Prop) : Prop := ∀ sz : Nat, Met l y ws { frames := fr, cells := mc, slots := ms, locals := lo } (va_Pc (.ref h :: As) (fun U => U.heap.size = sz ∧ va_P (dC, dI) clX [(h, .inr (ci, fs0))] U.heap ∧ va_K (dC, dI) clX (tyX cy) U ∧ va_D (fun _ => True) [(h, .inr (ci, fs0))] ∧ NWs U ∧ va_AO RX3 U)) (va_Qv Post (fun w t => va_P (dC, dI) clX w t.heap ∧ va_K (dC, dI) clX (tyX cy) t ∧ va_D (va_A [(h, .inr (ci, fs0))] sz) w) (va_A [(h, .inr (ci, fs0))] sz)) mc ms (va_A [(h, .inr (ci, fs0))] sz)
def CTIX (X : Ctx) (y : MethodName) (ws : List Cond) (fr lo mc ms h ci : Nat) (fs0 As : List Value) (Post : va_W → Prop) : Prop := match X with
  | (_, l, _, _, _, _, _, _, _, dC, dI, cy, _, _, _, _) => CTI l dC dI cy y ws fr lo mc ms h ci fs0 As Post
def QI (X : Ctx) (Post : va_W → Prop) (mc ms : Nat) : State → Prop := match X with
  | (_, _, _, s, _, args, below, _, _, dC, dI, cy, A, _, _, _) => MQ below (va_Qv Post (fun w t => va_P (dC, dI) clX w t.heap ∧ va_K (dC, dI) clX (tyX cy) t ∧ va_D A w) A) args s mc ms A
def cyX (X : Ctx) : Nat → ClassId := match X with
  | (_, _, _, _, _, _, _, _, _, _, _, cy, _, _, _, _) => cy
theorem cti_of {l : Launch} {dC : Nat → ClassId} {dI : Nat → Nat → Nat} {cy : Nat → ClassId} {y : MethodName} {ws ws2 : List Cond} {cc : ByteArray} {maxL fr lo mc ms h ci : Nat} {fs0 As : List Value} {lv : List (Nat × Value)} {Post : va_W → Prop} (hy : plainName y.cls = true) (hyn : y.name = "<init>") (hw : ws = Cond.code y cc maxL none :: ws2) (hlen : (lg_sl (.ref h :: As)).length ≤ maxL) (hlv : lv_args 0 (.ref h :: As) = lv)
    (hh : ∀ X : Ctx, cyX X = cy → COk X cc maxL y.cls ws → CJ X { frames := fr, cells := mc, slots := ms, locals := lo } (QI X Post mc ms) maxL [(h, .inr (ci, fs0))] 0 0 0 lv []) : CTI l dC dI cy y ws fr lo mc ms h ci fs0 As Post := by
  intro sz
  refine Met.ofW (cc := cc) (maxL := maxL) (ret := none) hy hw ?_
  intro p e s m args below meth c s₁ B hml hv
  obtain ⟨rfl, hsz, hP, hK, hD, hN, hO⟩ := hv
  have h2 := hh (p, l, e, s, m, (Value.ref h :: As).toArray, below, meth, c, dC, dI, cy, va_A [(h, .inr (ci, fs0))] sz, 0, 0, 0) rfl ⟨B.exec, B.bytes, hml, findClass_of_methodNamed B.named, atoms_spec (ws := ws) B.pre, hK, fun q hq => Or.inr (by rw [← hsz]; exact hq), B.notSynchronized, hN, hO, (name_of_methodNamed B.named B.method).1.trans hyn, B.returns⟩
  rw [lg_entry_eq]
  have hl := lv_entry (.ref h :: As) (n := maxL) hlen
  rw [hlv] at hl
  exact h2 s.heap [] _ hl hP hD.self va_S.rf
section CROWS
variable {X : Ctx} {R : Room} {Q : State → Prop} {nL cells slots pc : Nat} {ws : va_W} {lv : List (Nat × Value)} {st : List Value} {cc : ByteArray} {own : String} {Ts : List Cond}
theorem c_aload (hX : COk X cc nL own Ts) (pc : Nat) {k : Fin 4} {i x : Nat} (place : Nat) (d : decode cc pc = .ok (.aload_n k, 1)) (hi : (k : Nat) = i) (hl : lv[place]? = some (i, .ref x)) (kk : CJ X R Q nL ws cells slots (pc + 1) lv (.ref x :: st)) : CJ X R Q nL ws cells slots pc lv st := by
  obtain ⟨p, l, e, s, m, args, below, meth, c, dC, dI, cy, A, c0, bc, bs⟩ := X
  obtain ⟨hx, hb, hml, hown, hts, hK, hA, hlocks, hN, hO, hnm, hrt⟩ := hX
  intro H locs ls hl2 hP hD hS
  exact lv_aload_n hx hb d hi (lv_at hl2 place hl) (kk H locs ls hl2 hP hD hS)
theorem c_iload (hX : COk X cc nL own Ts) (pc : Nat) {k : Fin 4} {i : Nat} {x : Int32} (place : Nat) (d : decode cc pc = .ok (.iload_n k, 1)) (hi : (k : Nat) = i) (hl : lv[place]? = some (i, .int x)) (kk : CJ X R Q nL ws cells slots (pc + 1) lv (.int x :: st)) : CJ X R Q nL ws cells slots pc lv st := by
  obtain ⟨p, l, e, s, m, args, below, meth, c, dC, dI, cy, A, c0, bc, bs⟩ := X
  obtain ⟨hx, hb, hml, hown, hts, hK, hA, hlocks, hN, hO, hnm, hrt⟩ := hX
  intro H locs ls hl2 hP hD hS
  exact lv_iload_n hx hb d hi (lv_at hl2 place hl) (kk H locs ls hl2 hP hD hS)
theorem c_iconst (hX : COk X cc nL own Ts) (pc : Nat) {n : Int} {v : Int32} (d : decode cc pc = .ok (.iconst n, 1)) (hv : Int32.ofInt n = v) (kk : CJ X R Q nL ws cells slots (pc + 1) lv (.int v :: st)) : CJ X R Q nL ws cells slots pc lv st := by
  obtain ⟨p, l, e, s, m, args, below, meth, c, dC, dI, cy, A, c0, bc, bs⟩ := X
  obtain ⟨hx, hb, hml, hown, hts, hK, hA, hlocks, hN, hO, hnm, hrt⟩ := hX
  intro H locs ls hl2 hP hD hS
  exact lv_iconst hx hb d hv (kk H locs ls hl2 hP hD hS)
theorem c_bipush (hX : COk X cc nL own Ts) (pc : Nat) {n : Int} {v : Int32} (d : decode cc pc = .ok (.bipush n, 2)) (hv : (Int8.ofInt n).toInt32 = v) (kk : CJ X R Q nL ws cells slots (pc + 2) lv (.int v :: st)) : CJ X R Q nL ws cells slots pc lv st := by
  obtain ⟨p, l, e, s, m, args, below, meth, c, dC, dI, cy, A, c0, bc, bs⟩ := X
  obtain ⟨hx, hb, hml, hown, hts, hK, hA, hlocks, hN, hO, hnm, hrt⟩ := hX
  intro H locs ls hl2 hP hD hS
  exact lv_bipush hx hb d hv (kk H locs ls hl2 hP hD hS)
theorem c_sipush (hX : COk X cc nL own Ts) (pc : Nat) {n : Int} {v : Int32} (d : decode cc pc = .ok (.sipush n, 3)) (hv : (Int16.ofInt n).toInt32 = v) (kk : CJ X R Q nL ws cells slots (pc + 3) lv (.int v :: st)) : CJ X R Q nL ws cells slots pc lv st := by
  obtain ⟨p, l, e, s, m, args, below, meth, c, dC, dI, cy, A, c0, bc, bs⟩ := X
  obtain ⟨hx, hb, hml, hown, hts, hK, hA, hlocks, hN, hO, hnm, hrt⟩ := hX
  intro H locs ls hl2 hP hD hS
  exact lv_sipush hx hb d hv (kk H locs ls hl2 hP hD hS)
theorem c_dup (hX : COk X cc nL own Ts) (pc : Nat) {a : Nat} (d : decode cc pc = .ok (.dup, 1)) (kk : CJ X R Q nL ws cells slots (pc + 1) lv (.ref a :: .ref a :: st)) : CJ X R Q nL ws cells slots pc lv (.ref a :: st) := by
  obtain ⟨p, l, e, s, m, args, below, meth, c, dC, dI, cy, A, c0, bc, bs⟩ := X
  obtain ⟨hx, hb, hml, hown, hts, hK, hA, hlocks, hN, hO, hnm, hrt⟩ := hX
  intro H locs ls hl2 hP hD hS
  exact lv_dup hx hb d rfl (kk H locs ls hl2 hP hD hS)
theorem c_goto (hX : COk X cc nL own Ts) (pc tgt : Nat) {off : Int} (d : decode cc pc = .ok (.goto off, 3)) (ht : (pc : Int) + off = (tgt : Int)) (kk : CJ X R Q nL ws cells slots tgt lv st) : CJ X R Q nL ws cells slots pc lv st := by
  obtain ⟨p, l, e, s, m, args, below, meth, c, dC, dI, cy, A, c0, bc, bs⟩ := X
  obtain ⟨hx, hb, hml, hown, hts, hK, hA, hlocks, hN, hO, hnm, hrt⟩ := hX
  intro H locs ls hl2 hP hD hS
  exact lv_goto hx hb d ht (kk H locs ls hl2 hP hD hS)
theorem c_icmpge (hX : COk X cc nL own Ts) (pc tgt : Nat) {x y : Int32} {off : Int} (d : decode cc pc = .ok (.if_icmp .ge off, 3)) (ht : (pc : Int) + off = (tgt : Int)) (k1 : y ≤ x → CJ X R Q nL ws cells slots tgt lv st) (k2 : ¬ y ≤ x → CJ X R Q nL ws cells slots (pc + 3) lv st) : CJ X R Q nL ws cells slots pc lv (.int y :: .int x :: st) := by
  obtain ⟨p, l, e, s, m, args, below, meth, c, dC, dI, cy, A, c0, bc, bs⟩ := X
  obtain ⟨hx, hb, hml, hown, hts, hK, hA, hlocks, hN, hO, hnm, hrt⟩ := hX
  intro H locs ls hl2 hP hD hS
  exact lv_icmp_ge hx hb d ht (fun q => k1 q H locs ls hl2 hP hD hS) (fun q => k2 q H locs ls hl2 hP hD hS)
theorem c_istore (hX : COk X cc nL own Ts) (pc : Nat) {k : Fin 4} {i : Nat} {x : Int32} {lv2 : List (Nat × Value)} (d : decode cc pc = .ok (.istore_n k, 1)) (hi : (k : Nat) = i) (hn : i < nL) (hlv : (i, Value.int x) :: lv.filter (fun q => !(q.1 == i) && !(q.1 + 1 == i && q.2.category == 2)) = lv2) (kk : CJ X R Q nL ws cells slots (pc + 1) lv2 st) : CJ X R Q nL ws cells slots pc lv (.int x :: st) := by
  obtain ⟨p, l, e, s, m, args, below, meth, c, dC, dI, cy, A, c0, bc, bs⟩ := X
  obtain ⟨hx, hb, hml, hown, hts, hK, hA, hlocks, hN, hO, hnm, hrt⟩ := hX
  intro H locs ls hl2 hP hD hS
  exact lv_istore_n hx hb d hi hl2 hn hlv (fun ls hl => kk H locs ls hl hP hD hS)
theorem c_iinc (hX : COk X cc nL own Ts) (pc : Nat) {i : Nat} {n : Int} (place : Nat) {x v : Int32} {lv2 : List (Nat × Value)} (d : decode cc pc = .ok (.iinc i n, 3)) (hl : lv[place]? = some (i, .int x)) (hv : x + Int32.ofInt n = v) (hn : i < nL) (hlv : (i, Value.int v) :: lv.filter (fun q => !(q.1 == i) && !(q.1 + 1 == i && q.2.category == 2)) = lv2) (kk : CJ X R Q nL ws cells slots (pc + 3) lv2 st) : CJ X R Q nL ws cells slots pc lv st := by
  obtain ⟨p, l, e, s, m, args, below, meth, c, dC, dI, cy, A, c0, bc, bs⟩ := X
  obtain ⟨hx, hb, hml, hown, hts, hK, hA, hlocks, hN, hO, hnm, hrt⟩ := hX
  intro H locs ls hl2 hP hD hS
  exact lv_iinc hx hb d hl2 (k := place) hl hv hn hlv (fun ls hl => kk H locs ls hl hP hD hS)
theorem c_sub {lv2 : List (Nat × Value)} (is : List Nat) (hs : is.filterMap (fun i => lv[i]?) = lv2) (kk : CJ X R Q nL ws cells slots pc lv2 st) : CJ X R Q nL ws cells slots pc lv st := by
  obtain ⟨p, l, e, s, m, args, below, meth, c, dC, dI, cy, A, c0, bc, bs⟩ := X
  intro H locs ls hl2 hP hD hS
  exact kk H locs ls (lv_sub hl2 is hs) hP hD hS
theorem c_obj (hX : COk X cc nL own Ts) (pc : Nat) {idx a : Nat} (h1 : Cond.methodLink own idx objectInit ∈ Ts) (h2 : Cond.instanceMethod objectInit ∈ Ts) (h3 : Cond.code objectInit ⟨#[0xb1]⟩ 1 none ∈ Ts) (d : decode cc pc = .ok (.invokespecial idx, 3)) (hfr : 1 ≤ R.frames) (hlo : 12 ≤ R.locals) (kk : CJ X R Q nL ws cells slots (pc + 3) lv []) : CJ X R Q nL ws cells slots pc lv [.ref a] := by
  obtain ⟨p, l, e, s, m, args, below, meth, c, dC, dI, cy, A, c0, bc, bs⟩ := X
  obtain ⟨hx, hb, hml, hown, hts, hK, hA, hlocks, hN, hO, hnm, hrt⟩ := hX
  intro H locs ls hl2 hP hD hS
  refine W.objInit hx hb hown (hts _ h1) (hts _ h2) (hts _ h3) rfl (by rw [hml]; exact hl2.1) rfl d hfr (by show 2 * 0 + 0 + 12 ≤ R.locals; omega) ?_
  exact kk H locs ls hl2 hP hD hS
/-- a new row, behind the world -/
theorem c_newa (hX : COk X cc nL own Ts) (pc : Nat) {atype : ArrayType} {ty : FieldType} {n : Int32} {N j : Nat} {a0 : vp_A} (harr : Cond.arrayClass ty ∈ Ts) (hty : newarray.typeOf atype = ty) (hj : ∀ cy : Nat → ClassId, (tyX cy)[j]? = some (cy j, ty)) (hpr : ∀ (U : State) (cA : ClassId), va_RA U cA ty → U.vm.findClass ("[" ++ ty.toString) = some cA) (ha : ∀ cA : ClassId, vp_cell cA a0 = arrV cA N (fun _ => defaultValue ty)) (hn : ¬ n < 0) (hN : n.toNatClampNeg = N) (hby : N * componentBytes ty ≤ 536870912) (hc : cells + 1 ≤ R.cells) (hs : slots + N ≤ R.slots) (d : decode cc pc = .ok (.newarray atype, 2)) (kk : ∀ q : Nat, CJ X R Q nL (ws ++ [(q, .inl (cyX X j, a0))]) (cells + 1) (slots + N) (pc + 2) lv (.ref q :: st)) : CJ X R Q nL ws cells slots pc lv (.int n :: st) := by
  obtain ⟨p, l, e, s, m, args, below, meth, c, dC, dI, cy, A, c0, bc, bs⟩ := X
  obtain ⟨hx, hb, hml, hown, hts, hK, hA, hlocks, hN2, hO, hnm, hrt⟩ := hX
  intro H locs ls hl2 hP hD hS
  refine va_newa (atype := atype) (ty := ty) (N' := N) (a0 := a0) hx hb (by rw [hty]; exact hts _ harr) hty hK hP hD hS hA ha hn hN hby hc hs d (fun q cB H hK2 hP hD hS => ?_)
  have h1 : s.vm.findClass ("[" ++ ty.toString) = some (cy j) := hpr s _ (hK.2 j _ (hj cy)).2
  have h2 : s.vm.findClass ("[" ++ ty.toString) = some cB := hpr s _ (hK2.2 (tyX cy).length (cB, ty) (by rw [List.getElem?_append_right (Nat.le_refl _)]; simp)).2
  have hcc : cB = cy j := by rw [h1] at h2; exact (Option.some.inj h2).symm
  subst hcc
  exact kk q H locs ls hl2 hP hD hS
theorem c_newq (hX : COk X cc nL own Ts) (pc : Nat) {idx : Nat} {n : Int32} {N : Nat} (hcl : Cond.classLink own idx RX3 ∈ Ts) (hn : ¬ n < 0) (hN : n.toNatClampNeg = N) (hby : N * 4 ≤ 536870912) (hc : cells + 1 ≤ R.cells) (hs : slots + N ≤ R.slots) (d : decode cc pc = .ok (.anewarray idx, 3)) (kk : ∀ q : Nat, CJ X R Q nL (ws ++ [(q, .inl (cyX X 4, (N, .inr (.inr (.inr (.inr (fun _ => none)))))))]) (cells + 1) (slots + N) (pc + 3) lv (.ref q :: st)) : CJ X R Q nL ws cells slots pc lv (.int n :: st) := by
  obtain ⟨p, l, e, s, m, args, below, meth, c, dC, dI, cy, A, c0, bc, bs⟩ := X
  obtain ⟨hx, hb, hml, hown, hts, hK, hA, hlocks, hN2, hO, hnm, hrt⟩ := hX
  intro H locs ls hl2 hP hD hS
  refine va_newq (C := RX3) (N' := N) hx hb hown (hts _ hcl) hO hK hP hD hS hA hn hN hby hc hs d (fun q cB H hK2 hP hD hS => ?_)
  obtain ⟨k1, m1, -, -, -, h1⟩ := (hK.2 4 (cy 4, .object "TwoTongues$Item") rfl).2
  obtain ⟨k2, m2, -, -, -, h2⟩ := (hK2.2 5 (cB, .object RX3) rfl).2
  have hcc : cB = cy 4 := by
    have h3 : some (cy 4) = some cB := h1.symm.trans h2
    exact (Option.some.inj h3).symm
  subst hcc
  exact kk q H locs ls hl2 hP hD hS
/-- a new object, behind the world -/
theorem c_new (hX : COk X cc nL own Ts) (pc : Nat) {C : String} {T : u_T} {N ci idx : Nat} {fs : List Value} (hcl : clX[ci]? = some (C, T, N)) (hin : ∀ w ∈ u_ws C T N, w ∈ Ts) (ty : Nat → FieldType) (hty : ∀ k, k < N → parseFieldDescriptor (T k).2.2.1 = some (ty k)) (h1 : Cond.classLink own idx C ∈ Ts) (h2 : Cond.instantiable C N ∈ Ts) (h3 : Cond.initialized C ∈ Ts) (hfs : ∀ j, j < N → defaultValue (ty j) = vp_V fs j) (hc : cells + 1 ≤ R.cells) (hs : slots + N ≤ R.slots) (d : decode cc pc = .ok (.new idx, 3)) (kk : ∀ q : Nat, CJ X R Q nL (ws ++ [(q, .inr (ci, fs))]) (cells + 1) (slots + N) (pc + 3) lv (.ref q :: st)) : CJ X R Q nL ws cells slots pc lv st := by
  obtain ⟨p, l, e, s, m, args, below, meth, c, dC, dI, cy, A, c0, bc, bs⟩ := X
  obtain ⟨hx, hb, hml, hown, hts, hK, hA, hlocks, hN2, hO, hnm, hrt⟩ := hX
  intro H locs ls hl2 hP hD hS
  exact va_new (ci := ci) (fs := fs) hx hb hts hin ty hty hown (hts _ h1) (hts _ h2) (hts _ h3) hK hP hD hS hA hcl hfs hc hs d (fun q H hP hD hS => kk q H locs ls hl2 hP hD hS)
theorem c_put (hX : COk X cc nL own Ts) (pc : Nat) {C ref : String} {T : u_T} {N ci idx h0 : Nat} {fs : List Value} {tl : va_W} {ty : FieldType} {v : Value} (k : Nat) (hcl : clX[ci]? = some (C, T, N)) (hin : ∀ w ∈ u_ws C T N, w ∈ Ts) (ty0 : Nat → FieldType) (hty : ∀ k, k < N → parseFieldDescriptor (T k).2.2.1 = some (ty0 k)) (hnm : ∀ a, a < N → ∀ b, b < N → a ≠ b → (T a).2.1 ≠ (T b).2.1) (hk : k < N) (hlink : Cond.fieldLink own idx ref (T k).2.1 (T k).2.2.1 ∈ Ts) (hsame : ref = (T k).1) (hfin : (T k).2.2.2 = false ∨ ((T k).2.2.2 = true ∧ (T k).1 = own)) (hd : parseFieldDescriptor (T k).2.2.1 = some ty) (hna : narrow ty v = v) (hfit : fits ty v = true) (hl : k < fs.length) (d : decode cc pc = .ok (.putfield idx, 3)) (kk : CJ X R Q nL ((h0, .inr (ci, fs.set k v)) :: tl) cells slots (pc + 3) lv st) : CJ X R Q nL ((h0, .inr (ci, fs)) :: tl) cells slots pc lv (v :: .ref h0 :: st) := by
  obtain ⟨p, l, e, s, m, args, below, meth, c, dC, dI, cy, A, c0, bc, bs⟩ := X
  obtain ⟨hx, hb, hml, hown, hts, hK, hA, hlocks, hN2, hO, hnm2, hrt⟩ := hX
  intro H locs ls hl2 hP hD hS
  subst hsame
  rcases hfin with hf | ⟨hf, hdecl⟩
  · exact va_put (ci := ci) hx hb hts hin ty0 hty hnm hown hK hP hD hS 0 rfl hcl k hk (hts _ hlink) (fun _ h => h) hf hd hna hfit hl d (fun H locs hP hD hS => kk H locs ls hl2 hP hD hS)
  · exact va_putF (ci := ci) hx hb hts hin ty0 hty hnm hown hK hP hD hS 0 rfl hcl k hk (hts _ hlink) (fun _ h => h) hf hnm2 hdecl hd hna hfit hl d (fun H locs hP hD hS => kk H locs ls hl2 hP hD hS)
theorem c_get (hX : COk X cc nL own Ts) (pc : Nat) {C ref : String} {T : u_T} {N ci idx h0 : Nat} {fs : List Value} {tl : va_W} {v : Value} (k : Nat) (hcl : clX[ci]? = some (C, T, N)) (hin : ∀ w ∈ u_ws C T N, w ∈ Ts) (hk : k < N) (hlink : Cond.fieldLink own idx ref (T k).2.1 (T k).2.2.1 ∈ Ts) (hsame : ref = (T k).1) (hv : fs[k]? = some v) (d : decode cc pc = .ok (.getfield idx, 3)) (kk : CJ X R Q nL ((h0, .inr (ci, fs)) :: tl) cells slots (pc + 3) lv (v :: st)) : CJ X R Q nL ((h0, .inr (ci, fs)) :: tl) cells slots pc lv (.ref h0 :: st) := by
  obtain ⟨p, l, e, s, m, args, below, meth, c, dC, dI, cy, A, c0, bc, bs⟩ := X
  obtain ⟨hx, hb, hml, hown, hts, hK, hA, hlocks, hN2, hO, hnm2, hrt⟩ := hX
  intro H locs ls hl2 hP hD hS
  subst hsame
  exact va_get (ci := ci) hx hb hts hin hown hK hP 0 rfl hcl k hk (hts _ hlink) (fun _ h => h) hv d (kk H locs ls hl2 hP hD hS)
theorem c_ret (hX : COk X cc nL own Ts) (pc : Nat) {Post : va_W → Prop} {fr lo mc ms : Nat} (hp : Post ws) (hc : cells ≤ mc) (hs : slots ≤ ms) (d : decode cc pc = .ok (.return_, 1)) : CJ X { frames := fr, cells := mc, slots := ms, locals := lo } (QI X Post mc ms) nL ws cells slots pc lv [] := by
  obtain ⟨p, l, e, s, m, args, below, meth, c, dC, dI, cy, A, c0, bc, bs⟩ := X
  obtain ⟨hx, hb, hml, hown, hts, hK, hA, hlocks, hN2, hO, hnm2, hrt⟩ := hX
  intro H locs ls hl2 hP hD hS
  refine W.widen hc hs ?_
  exact W.vret hx hb hrt (fun t ht hW => ⟨⟨ws, rfl, hp, by rw [ht]; exact hP, va_K.moved hW.alike hK, hD⟩, hS.F ht⟩) hS.2.2 d
end CROWS
theorem va_D_one {q : Nat} {e : va_E} : va_D (fun _ => True) [(q, e)] := ⟨fun i j x y hi hj _ => by
  have := (List.getElem?_eq_some_iff.mp hi).1
  have := (List.getElem?_eq_some_iff.mp hj).1
  simp at *
  omega, fun _ _ _ => trivial⟩
/-- behind a constructor's call: the world ahead of the new object, and what became of that one -/
theorem joined {D : va_G} {cl : List vw_C} {A : Nat → Prop} {ws1 w : va_W} {H H1 : Heap} {q : Nat} {e : va_E} (hP : va_P D cl (ws1 ++ [(q, e)]) H) (hD : va_D A (ws1 ++ [(q, e)])) (hk : ∀ x : Nat, x < H.size → ¬ va_A [(q, e)] H.size x → H1[x]? = H[x]?) (hA : ∀ x, va_A [(q, e)] H.size x → A x) (hP1 : va_P D cl w H1) (hD1 : va_D (va_A [(q, e)] H.size) w) : va_P D cl (ws1 ++ w) H1 ∧ va_D A (ws1 ++ w) := by
  have hlast : (ws1 ++ [(q, e)])[ws1.length]? = some (q, e) := by rw [List.getElem?_append_right (Nat.le_refl _)]; simp
  have lf : ∀ (k : Nat) (x : Nat × va_E), ws1[k]? = some x → (ws1 ++ [(q, e)])[k]? = some x := fun k x hx => by
    rw [List.getElem?_append_left (List.getElem?_eq_some_iff.mp hx).1]; exact hx
  have apart : ∀ (k : Nat) (x : Nat × va_E), ws1[k]? = some x → x.1 < H.size ∧ ¬ va_A [(q, e)] H.size x.1 := fun k x hx => by
    have hl := (hP k x (lf k x hx)).lt
    refine ⟨hl, fun z => ?_⟩
    rcases z with ⟨k2, e', hk2⟩ | z
    · match k2, hk2 with
      | 0, hk2 =>
        have e0 : q = x.1 := (Prod.mk.inj (Option.some.inj hk2)).1
        have := hD.1 k ws1.length x (q, e) (lf k x hx) hlast e0.symm
        have := (List.getElem?_eq_some_iff.mp hx).1
        omega
      | k2 + 1, hk2 => simp at hk2
    · omega
  refine ⟨va_P.app (fun k x hx => ?_) hP1, va_D.app ⟨fun i j x y hi hj hxy => hD.1 i j x y (lf i x hi) (lf j y hj) hxy, fun k x hx => hD.2 k x (lf k x hx)⟩ (hD1.weaken (fun k x _ h => hA x.1 h)) (fun i j x y hi hj hxy => ?_)⟩
  · obtain ⟨g1, g2⟩ := apart k x hx
    exact (hP k x (lf k x hx)).kept (hk x.1 g1 g2)
  · exact (apart i x hi).2 (by rw [hxy]; exact hD1.2 j y hj)
theorem cti_blind {dC : Nat → ClassId} {dI : Nat → Nat → Nat} {cy : Nat → ClassId} {sz h ci : Nat} {fs0 av : List Value} : FrameBlind (va_Pc av (fun U => U.heap.size = sz ∧ va_P (dC, dI) clX [(h, .inr (ci, fs0))] U.heap ∧ va_K (dC, dI) clX (tyX cy) U ∧ va_D (fun _ => True) [(h, .inr (ci, fs0))] ∧ NWs U ∧ va_AO RX3 U)) := fun a U g mk q => by
  obtain ⟨q0, q1, qP, qK, qD, qN, qO⟩ := q
  exact ⟨q0, q1, qP, va_K.moved (u := U) (U := U.calling g mk a) (Vm.Alike.refl U.vm) qK, qD, NWs.same (u := U) (U := U.calling g mk a) rfl qN, va_AO.moved (u := U) (U := U.calling g mk a) (Vm.Alike.refl U.vm) qO⟩
section CCALL
variable {X : Ctx} {R : Room} {Q : State → Prop} {nL cells slots : Nat} {ws : va_W} {lv : List (Nat × Value)} {st : List Value} {cc : ByteArray} {own : String} {Ts : List Cond}
theorem c_call (hX : COk X cc nL own Ts) (pc : Nat) {y : MethodName} {wsC ws2 : List Cond} {bytes : ByteArray} {idx maxL fr lo mc ms q ci n : Nat} {fs0 As st0 : List Value} {Post : va_W → Prop} (hM : CTIX X y wsC fr lo mc ms q ci fs0 As Post) (hG : GoodIn Ts wsC) (hw : wsC = Cond.code y bytes maxL none :: ws2) (hlk : Cond.methodLink own idx y ∈ Ts ∨ (own, idx, y, "TwoTongues") ∈ nwM) (h2 : Cond.initialized y.cls ∈ Ts) (h3 : Cond.instanceMethod y ∈ Ts) (hy1 : y.name = "<init>") (hd : y.cls ≠ "java/lang/invoke/MethodHandle" ∧ y.cls ≠ "java/lang/invoke/VarHandle" ∧ (parseMethodDescriptor y.desc).map (fun d => d.parameters.length) = some n) (hR : fr + 1 ≤ R.frames ∧ 8 + (maxL + 11) + lo ≤ R.locals) (hn : As.length = n) (hst : st0 = As.reverse ++ .ref q :: st) (hw8 : (st.map fun v => v.category).sum ≤ 8) (d : decode cc pc = .ok (.invokespecial idx, 3)) (hc : cells + mc ≤ R.cells) (hs : slots + ms ≤ R.slots) (kk : ∀ w : va_W, Post w → CJ X R Q nL (ws ++ w) (cells + mc) (slots + ms) (pc + 3) lv st) : CJ X R Q nL (ws ++ [(q, .inr (ci, fs0))]) cells slots pc lv st0 := by
  obtain ⟨p, l, e, s, m, args, below, meth, c, dC, dI, cy, A, c0, bc, bs⟩ := X
  obtain ⟨hx, hb, hml, hown, hts, hK, hA, hlocks, hN2, hO, hnm2, hrt⟩ := hX
  intro H locs ls hl2 hP hD hS
  subst hst
  have hlast : (ws ++ [(q, Sum.inr (ci, fs0))])[ws.length]? = some (q, Sum.inr (ci, fs0)) := by rw [List.getElem?_append_right (Nat.le_refl _)]; simp
  have hPc : va_P (dC, dI) clX [(q, .inr (ci, fs0))] H := fun k' q' h' => by
    match k', h' with
    | 0, h' =>
      have e0 : (q, Sum.inr (ci, fs0)) = q' := Option.some.inj h'
      rw [← e0]; exact hP ws.length _ hlast
    | k' + 1, h' => simp at h'
  have hFc : ∀ z, va_A [((q, .inr (ci, fs0)) : Nat × va_E)] H.size z → A z := fun z hz => by
    rcases hz with ⟨k2, e', hk2⟩ | hz
    · match k2, hk2 with
      | 0, hk2 =>
        have e0 : q = z := (Prod.mk.inj (Option.some.inj hk2)).1
        rw [← e0]; exact hD.2 ws.length _ hlast
      | k2 + 1, hk2 => simp at hk2
    · exact hA z (Nat.le_trans hS.1 hz)
  have pre : PreS s H (va_Pc (.ref q :: As) (fun U => U.heap.size = H.size ∧ va_P (dC, dI) clX [(q, .inr (ci, fs0))] U.heap ∧ va_K (dC, dI) clX (tyX cy) U ∧ va_D (fun _ => True) [(q, .inr (ci, fs0))] ∧ NWs U ∧ va_AO RX3 U)) (.ref q :: As) := ⟨cti_blind, fun U hU hW => ⟨rfl, by rw [hU], by rw [hU]; exact hPc, va_K.moved hW.alike hK, va_D_one, hN2.warm hW, va_AO.moved hW.alike hO⟩⟩
  have rest : ∀ (u : va_W) (t : State) (H1 : Heap) (locs1 : List Loc), t.heap = H1 → s.vm.Alike t.vm → Post u → (va_P (dC, dI) clX u t.heap ∧ va_K (dC, dI) clX (tyX cy) t ∧ va_D (va_A [(q, .inr (ci, fs0))] H.size) u) → H.size ≤ H1.size → (∀ z : Nat, z < H.size → ¬ va_A [(q, .inr (ci, fs0))] H.size z → H1[z]? = H[z]?) → va_S A s.heap H1 locs1 → W p l e R s m args below meth c H1 locs1 (cells + mc) (slots + ms) Q (F0 m (pc + 3) ls st) := fun u t H1 locs1 ht hvm hw hB hz1 hk1 hS => by
    obtain ⟨hP1, hK1, hD1⟩ := hB
    rw [ht] at hP1
    obtain ⟨hP2, hD2⟩ := joined hP hD hk1 hFc hP1 hD1
    exact kk u hw H1 locs1 ls hl2 hP2 hD2 hS
  rcases hlk with hlk | hlk
  · exact va_callv (va_runI (As := As) (rest := st) ⟨hx, hb, hml, hown, hts⟩ (hM H.size) (cwI n hts hG hw rfl rfl (hts _ h2) (hts _ hlk) (hts _ h3) hy1 hd hR) pre rfl hn hl2.1 rfl (lv_room hw8) d ⟨hc, hs⟩) hS (fun z _ h => hFc z h) hFc rest
  · exact va_callv (va_runIN (As := As) (rest := st) ⟨hx, hb, hml, hown, hts⟩ (hM H.size) ⟨va_cnB n hts hG hw rfl rfl (hN2.1 _ hlk) (hts _ h2) hd hR, hy1, hts _ h3⟩ pre rfl hn hl2.1 rfl (lv_room hw8) d ⟨hc, hs⟩) hS (fun z _ h => hFc z h) hFc rest
end CCALL
theorem ra_i (U : State) (cA : ClassId) (h : va_RA U cA .int) : U.vm.findClass ("[" ++ (FieldType.int).toString) = some cA := h
theorem ra_b (U : State) (cA : ClassId) (h : va_RA U cA .byte) : U.vm.findClass ("[" ++ (FieldType.byte).toString) = some cA := h
theorem ra_z (U : State) (cA : ClassId) (h : va_RA U cA .boolean) : U.vm.findClass ("[" ++ (FieldType.boolean).toString) = some cA := h
theorem ra_l (U : State) (cA : ClassId) (h : va_RA U cA .long) : U.vm.findClass ("[" ++ (FieldType.long).toString) = some cA := h
