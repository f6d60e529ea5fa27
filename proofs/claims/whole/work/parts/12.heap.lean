section HROWS
variable {ρ : Type} {X : Ctx} {ad : Nat → Nat → Nat} {γ : Nat → Nat} {RQ : ρ → Room × (State → Prop)} {fc : ρ → Nat} {fr lo : Nat} {cc : ByteArray} {nL : Nat} {own : String} {Ts : List Cond} {ret : Option FieldType} {code : Option ρ} {S : St} {lv : List (Nat × Value)} {st : List Value}
theorem adr_obj {ad : Nat → Nat → Nat} {γ : Nat → Nat} {c n : Nat} (h : c < 12) : adr ad γ c n = ad c n := by
  have : ¬ kG ≤ c := by unfold kG; omega
  simp [adr, this]
theorem same_of {Ts : List Cond} {args : Array Value} {s : State} (hts : ∀ w ∈ Ts, w.before args s = true) {ref o n d : String} (h : ref = o ∨ Cond.sameField ref o n d ∈ Ts) : ∀ x, s.fieldFound? o n d = some x → s.fieldFound? ref n d = some x := by
  rcases h with h | h
  · subst h; exact fun _ h => h
  · exact fun x hx => u_same (hts _ h) x hx
theorem j_getv (pc : Nat)  {ref C : String} {T : u_T} {N c n index : Nat} (k : Nat) (hin : ∀ w ∈ u_ws C T N, w ∈ Ts) (hcl : clX[c]? = some (C, T, N)) (h12 : c < 12) (hm : (c, n) ∈ prs) (hk : k < N) (hln : k < (kTab.getD c []).length) (hlink : Cond.fieldLink own index ref (T k).2.1 (T k).2.2.1 ∈ Ts) (hsame : ref = (T k).1 ∨ Cond.sameField ref (T k).1 (T k).2.1 (T k).2.2.1 ∈ Ts) {v : Value} (hv : fv ad γ S c n k = v) (d : decode cc pc = .ok (.getfield index, 3)) (kk : JJ X ad γ RQ fc fr lo cc nL own Ts ret (code) S (pc + 3) lv (v :: st)) : JJ X ad γ RQ fc fr lo cc nL own Ts ret (code) S pc lv (.ref (ad c n) :: st) := by
  obtain ⟨p, l, e, s, m, args, below, meth, c0', dC, dI, cy, A, c0, bc, bs⟩ := X
  intro o ho
  obtain ⟨h1, h2⟩ := kk o ho
  refine ⟨h1, fun hX H locs ls hl hP hD hS hc => ?_⟩
  have h2 := h2 hX
  obtain ⟨hx, hb, hml, hown, hts, hK, hA, hlocks, hN, hR, hrt⟩ := hX
  obtain ⟨q0, -, hq⟩ := wl_get cy ad γ S hm
  rw [co_obj cy ad γ S h12, adr_obj h12] at hq
  exact va_get hx hb hts hin hown hK hP q0 hq hcl k hk (hts _ hlink) (same_of hts hsame) (by rw [List.getElem?_map, List.getElem?_range hln]; exact congrArg some hv) d (h2 H locs ls hl hP hD hS hc)
theorem fv_i {ad : Nat → Nat → Nat} {γ : Nat → Nat} {S : St} {c n k : Nat} (h : (kEnt c k).1 = 0) : fv ad γ S c n k = .int (gI S c n k) := by unfold fv; rw [h]; rfl
theorem j_geti (pc : Nat)  {ref C : String} {T : u_T} {N c n index : Nat} (k : Nat) (hin : ∀ w ∈ u_ws C T N, w ∈ Ts) (hcl : clX[c]? = some (C, T, N)) (h12 : c < 12) (hm : (c, n) ∈ prs) (hk : k < N) (hln : k < (kTab.getD c []).length) (hlink : Cond.fieldLink own index ref (T k).2.1 (T k).2.2.1 ∈ Ts) (hsame : ref = (T k).1 ∨ Cond.sameField ref (T k).1 (T k).2.1 (T k).2.2.1 ∈ Ts) (he : (kEnt c k).1 = 0) (d : decode cc pc = .ok (.getfield index, 3)) (kk : JJ X ad γ RQ fc fr lo cc nL own Ts ret (code) S (pc + 3) lv (.int (gI S c n k) :: st)) : JJ X ad γ RQ fc fr lo cc nL own Ts ret (code) S pc lv (.ref (ad c n) :: st) := j_getv pc k hin hcl h12 hm hk hln hlink hsame (fv_i he) d kk
theorem j_puti (pc : Nat)  {ref C : String} {T : u_T} {N c n index : Nat} (k : Nat) (hin : ∀ w ∈ u_ws C T N, w ∈ Ts) (hcl : clX[c]? = some (C, T, N)) (h12 : c < 12) (hm : (c, n) ∈ prs) (hk : k < N) (hln : k < (kTab.getD c []).length) (hlink : Cond.fieldLink own index ref (T k).2.1 (T k).2.2.1 ∈ Ts) (hsame : ref = (T k).1 ∨ Cond.sameField ref (T k).1 (T k).2.1 (T k).2.2.1 ∈ Ts) (ty0 : Nat → FieldType) (hty : ∀ k, k < N → parseFieldDescriptor (T k).2.2.1 = some (ty0 k)) (hnm : ∀ a, a < N → ∀ b, b < N → a ≠ b → (T a).2.1 ≠ (T b).2.1) (hfin : (T k).2.2.2 = false) (hd : parseFieldDescriptor (T k).2.2.1 = some .int) (he : (kEnt c k).1 = 0) {v : Int32} (d : decode cc pc = .ok (.putfield index, 3)) (kk : JJ X ad γ RQ fc fr lo cc nL own Ts ret (code) (pI S c n k v) (pc + 3) lv (st)) : JJ X ad γ RQ fc fr lo cc nL own Ts ret (code) S pc lv (.int v :: .ref (ad c n) :: st) := by
  obtain ⟨p, l, e, s, m, args, below, meth, c0', dC, dI, cy, A, c0, bc, bs⟩ := X
  intro o ho
  obtain ⟨h1, h2⟩ := kk o ho
  refine ⟨h1, fun hX H locs ls hl hP hD hS hc => ?_⟩
  have h2 := h2 hX
  obtain ⟨hx, hb, hml, hown, hts, hK, hA, hlocks, hN, hR, hrt⟩ := hX
  obtain ⟨q0, hq0, hq⟩ := wl_get cy ad γ S hm
  have hset : (wl cy ad γ S).set q0 (ad c n, .inr (c, ((List.range (kTab.getD c []).length).map (fv ad γ S c n)).set k (.int v))) = wl cy ad γ (pI S c n k v) := by
    have h3 := wl_set (cy := cy) (ad := ad) (γ := γ) (S := S) (S' := pI S c n k v) hq0 (pI_oth)
    rw [co_obj cy ad γ _ h12, adr_obj h12] at h3
    rw [← h3]
    congr 4
    exact fs_set hln (by rw [fv_i he]; exact congrArg _ (up3_self _ _ _ _ _)) (fun i hi => by
      unfold fv
      rw [show gI (pI S c n k v) c n i = gI S c n i from up3_k hi]
      rfl)
  rw [co_obj cy ad γ S h12, adr_obj h12] at hq
  refine va_put hx hb hts hin ty0 hty hnm hown hK hP hD hS q0 hq hcl k hk (hts _ hlink) (same_of hts hsame) hfin hd rfl rfl (by simpa using hln) d (fun H1 locs1 hP1 hD1 hS1 => ?_)
  rw [hset] at hP1 hD1
  exact h2 H1 locs1 ls hl hP1 hD1 hS1 hc
theorem fv_l {ad : Nat → Nat → Nat} {γ : Nat → Nat} {S : St} {c n k : Nat} (h : (kEnt c k).1 = 1) : fv ad γ S c n k = .long (gJ S c n k) := by unfold fv; rw [h]; rfl
theorem j_getl (pc : Nat)  {ref C : String} {T : u_T} {N c n index : Nat} (k : Nat) (hin : ∀ w ∈ u_ws C T N, w ∈ Ts) (hcl : clX[c]? = some (C, T, N)) (h12 : c < 12) (hm : (c, n) ∈ prs) (hk : k < N) (hln : k < (kTab.getD c []).length) (hlink : Cond.fieldLink own index ref (T k).2.1 (T k).2.2.1 ∈ Ts) (hsame : ref = (T k).1 ∨ Cond.sameField ref (T k).1 (T k).2.1 (T k).2.2.1 ∈ Ts) (he : (kEnt c k).1 = 1) (d : decode cc pc = .ok (.getfield index, 3)) (kk : JJ X ad γ RQ fc fr lo cc nL own Ts ret (code) S (pc + 3) lv (.long (gJ S c n k) :: st)) : JJ X ad γ RQ fc fr lo cc nL own Ts ret (code) S pc lv (.ref (ad c n) :: st) := j_getv pc k hin hcl h12 hm hk hln hlink hsame (fv_l he) d kk
theorem j_putl (pc : Nat)  {ref C : String} {T : u_T} {N c n index : Nat} (k : Nat) (hin : ∀ w ∈ u_ws C T N, w ∈ Ts) (hcl : clX[c]? = some (C, T, N)) (h12 : c < 12) (hm : (c, n) ∈ prs) (hk : k < N) (hln : k < (kTab.getD c []).length) (hlink : Cond.fieldLink own index ref (T k).2.1 (T k).2.2.1 ∈ Ts) (hsame : ref = (T k).1 ∨ Cond.sameField ref (T k).1 (T k).2.1 (T k).2.2.1 ∈ Ts) (ty0 : Nat → FieldType) (hty : ∀ k, k < N → parseFieldDescriptor (T k).2.2.1 = some (ty0 k)) (hnm : ∀ a, a < N → ∀ b, b < N → a ≠ b → (T a).2.1 ≠ (T b).2.1) (hfin : (T k).2.2.2 = false) (hd : parseFieldDescriptor (T k).2.2.1 = some .long) (he : (kEnt c k).1 = 1) {v : Int64} (d : decode cc pc = .ok (.putfield index, 3)) (kk : JJ X ad γ RQ fc fr lo cc nL own Ts ret (code) (pJ S c n k v) (pc + 3) lv (st)) : JJ X ad γ RQ fc fr lo cc nL own Ts ret (code) S pc lv (.long v :: .ref (ad c n) :: st) := by
  obtain ⟨p, l, e, s, m, args, below, meth, c0', dC, dI, cy, A, c0, bc, bs⟩ := X
  intro o ho
  obtain ⟨h1, h2⟩ := kk o ho
  refine ⟨h1, fun hX H locs ls hl hP hD hS hc => ?_⟩
  have h2 := h2 hX
  obtain ⟨hx, hb, hml, hown, hts, hK, hA, hlocks, hN, hR, hrt⟩ := hX
  obtain ⟨q0, hq0, hq⟩ := wl_get cy ad γ S hm
  have hset : (wl cy ad γ S).set q0 (ad c n, .inr (c, ((List.range (kTab.getD c []).length).map (fv ad γ S c n)).set k (.long v))) = wl cy ad γ (pJ S c n k v) := by
    have h3 := wl_set (cy := cy) (ad := ad) (γ := γ) (S := S) (S' := pJ S c n k v) hq0 (pJ_oth)
    rw [co_obj cy ad γ _ h12, adr_obj h12] at h3
    rw [← h3]
    congr 4
    exact fs_set hln (by rw [fv_l he]; exact congrArg _ (up3_self _ _ _ _ _)) (fun i hi => by
      unfold fv
      rw [show gJ (pJ S c n k v) c n i = gJ S c n i from up3_k hi]
      rfl)
  rw [co_obj cy ad γ S h12, adr_obj h12] at hq
  refine va_put hx hb hts hin ty0 hty hnm hown hK hP hD hS q0 hq hcl k hk (hts _ hlink) (same_of hts hsame) hfin hd rfl rfl (by simpa using hln) d (fun H1 locs1 hP1 hD1 hS1 => ?_)
  rw [hset] at hP1 hD1
  exact h2 H1 locs1 ls hl hP1 hD1 hS1 hc
theorem j_getr (pc : Nat)  {ref C : String} {T : u_T} {N c n index : Nat} (k : Nat) (hin : ∀ w ∈ u_ws C T N, w ∈ Ts) (hcl : clX[c]? = some (C, T, N)) (h12 : c < 12) (hm : (c, n) ∈ prs) (hk : k < N) (hln : k < (kTab.getD c []).length) (hlink : Cond.fieldLink own index ref (T k).2.1 (T k).2.2.1 ∈ Ts) (hsame : ref = (T k).1 ∨ Cond.sameField ref (T k).1 (T k).2.1 (T k).2.2.1 ∈ Ts) {c2 n2 : Nat} (he : (kEnt c k).1 = 2) (h2 : (kEnt c k).2.1 = c2) (h3 : (kEnt c k).2.2.1 + (kEnt c k).2.2.2 * n = n2) (d : decode cc pc = .ok (.getfield index, 3)) (kk : JJ X ad γ RQ fc fr lo cc nL own Ts ret (code) S (pc + 3) lv (.ref (ad c2 n2) :: st)) : JJ X ad γ RQ fc fr lo cc nL own Ts ret (code) S pc lv (.ref (ad c n) :: st) := j_getv pc k hin hcl h12 hm hk hln hlink hsame (by unfold fv; rw [he]; simp only [h2, h3]) d kk
theorem j_getg (pc : Nat)  {ref C : String} {T : u_T} {N c n index : Nat} (k : Nat) (hin : ∀ w ∈ u_ws C T N, w ∈ Ts) (hcl : clX[c]? = some (C, T, N)) (h12 : c < 12) (hm : (c, n) ∈ prs) (hk : k < N) (hln : k < (kTab.getD c []).length) (hlink : Cond.fieldLink own index ref (T k).2.1 (T k).2.2.1 ∈ Ts) (hsame : ref = (T k).1 ∨ Cond.sameField ref (T k).1 (T k).2.1 (T k).2.2.1 ∈ Ts) {j : Nat} (he : (kEnt c k).1 = 3) (h2 : (kEnt c k).2.1 = j) (d : decode cc pc = .ok (.getfield index, 3)) (kk : JJ X ad γ RQ fc fr lo cc nL own Ts ret (code) S (pc + 3) lv (.ref (γ j) :: st)) : JJ X ad γ RQ fc fr lo cc nL own Ts ret (code) S pc lv (.ref (ad c n) :: st) := j_getv pc k hin hcl h12 hm hk hln hlink hsame (by unfold fv; rw [he]; simp only [h2]) d kk
theorem co_iald (cy : Nat → ClassId) (ad : Nat → Nat → Nat) (γ : Nat → Nat) (S : St) {c n : Nat} (h : ¬ c < 12) (he : (aEnt c).1 = 0) : co cy ad γ S c n = .inl (cy 0, ln S c, .inl (gA S c n)) := by unfold co; rw [if_neg h, he]; rfl
theorem j_iald (pc : Nat)  {c n a L : Nat} (hm : (c, n) ∈ prs) (h12 : ¬ c < 12) (ha : adr ad γ c n = a) (hL : ln S c = L) (he : (aEnt c).1 = 0) {i : Int32} (d : decode cc pc = .ok (.iaload, 1)) (kk : JJ X ad γ RQ fc fr lo cc nL own Ts ret (code) S (pc + 1) lv (.int (gA S c n i.toNatClampNeg) :: st)) : JJ X ad γ RQ fc fr lo cc nL own Ts ret (gd (ix i L) code) S pc lv (.int i :: .ref a :: st) := by
  obtain ⟨p, l, e, s, m, args, below, meth, c0', dC, dI, cy, A, c0, bc, bs⟩ := X
  intro o ho
  obtain ⟨hq, ho⟩ := gd_some ho
  obtain ⟨h1, h2⟩ := kk o ho
  refine ⟨h1, fun hX H locs ls hl hP hD hS hc => ?_⟩
  have h2 := h2 hX
  obtain ⟨hx, hb, hml, hown, hts, hK, hA, hlocks, hN, hR, hrt⟩ := hX
  obtain ⟨q0, -, hq1⟩ := wl_get cy ad γ S hm
  rw [co_iald cy ad γ S h12 he, ha, hL] at hq1
  exact va_iald hx hb hK hP q0 0 hq1 rfl (ix_in hq) d (h2 H locs ls hl hP hD hS hc)
theorem co_bald (cy : Nat → ClassId) (ad : Nat → Nat → Nat) (γ : Nat → Nat) (S : St) {c n : Nat} (h : ¬ c < 12) (he : (aEnt c).1 = 1) : co cy ad γ S c n = .inl (cy 1, ln S c, .inl (gA S c n)) := by unfold co; rw [if_neg h, he]; rfl
theorem j_bald (pc : Nat)  {c n a L : Nat} (hm : (c, n) ∈ prs) (h12 : ¬ c < 12) (ha : adr ad γ c n = a) (hL : ln S c = L) (he : (aEnt c).1 = 1) {i : Int32} (d : decode cc pc = .ok (.baload, 1)) (kk : JJ X ad γ RQ fc fr lo cc nL own Ts ret (code) S (pc + 1) lv (.int (gA S c n i.toNatClampNeg) :: st)) : JJ X ad γ RQ fc fr lo cc nL own Ts ret (gd (ix i L) code) S pc lv (.int i :: .ref a :: st) := by
  obtain ⟨p, l, e, s, m, args, below, meth, c0', dC, dI, cy, A, c0, bc, bs⟩ := X
  intro o ho
  obtain ⟨hq, ho⟩ := gd_some ho
  obtain ⟨h1, h2⟩ := kk o ho
  refine ⟨h1, fun hX H locs ls hl hP hD hS hc => ?_⟩
  have h2 := h2 hX
  obtain ⟨hx, hb, hml, hown, hts, hK, hA, hlocks, hN, hR, hrt⟩ := hX
  obtain ⟨q0, -, hq1⟩ := wl_get cy ad γ S hm
  rw [co_bald cy ad γ S h12 he, ha, hL] at hq1
  exact va_bald hx hb hK hP q0 1 hq1 rfl (ix_in hq) d (h2 H locs ls hl hP hD hS hc)
theorem co_zald (cy : Nat → ClassId) (ad : Nat → Nat → Nat) (γ : Nat → Nat) (S : St) {c n : Nat} (h : ¬ c < 12) (he : (aEnt c).1 = 2) : co cy ad γ S c n = .inl (cy 2, ln S c, .inl (gA S c n)) := by unfold co; rw [if_neg h, he]; rfl
theorem j_zald (pc : Nat)  {c n a L : Nat} (hm : (c, n) ∈ prs) (h12 : ¬ c < 12) (ha : adr ad γ c n = a) (hL : ln S c = L) (he : (aEnt c).1 = 2) {i : Int32} (d : decode cc pc = .ok (.baload, 1)) (kk : JJ X ad γ RQ fc fr lo cc nL own Ts ret (code) S (pc + 1) lv (.int (gA S c n i.toNatClampNeg) :: st)) : JJ X ad γ RQ fc fr lo cc nL own Ts ret (gd (ix i L) code) S pc lv (.int i :: .ref a :: st) := by
  obtain ⟨p, l, e, s, m, args, below, meth, c0', dC, dI, cy, A, c0, bc, bs⟩ := X
  intro o ho
  obtain ⟨hq, ho⟩ := gd_some ho
  obtain ⟨h1, h2⟩ := kk o ho
  refine ⟨h1, fun hX H locs ls hl hP hD hS hc => ?_⟩
  have h2 := h2 hX
  obtain ⟨hx, hb, hml, hown, hts, hK, hA, hlocks, hN, hR, hrt⟩ := hX
  obtain ⟨q0, -, hq1⟩ := wl_get cy ad γ S hm
  rw [co_zald cy ad γ S h12 he, ha, hL] at hq1
  exact va_zald hx hb hK hP q0 2 hq1 rfl (ix_in hq) d (h2 H locs ls hl hP hD hS hc)
theorem co_lald (cy : Nat → ClassId) (ad : Nat → Nat → Nat) (γ : Nat → Nat) (S : St) {c n : Nat} (h : ¬ c < 12) (he : (aEnt c).1 = 3) : co cy ad γ S c n = .inl (cy 3, ln S c, .inr (.inl (gB S c n))) := by unfold co; rw [if_neg h, he]; rfl
theorem j_lald (pc : Nat)  {c n a L : Nat} (hm : (c, n) ∈ prs) (h12 : ¬ c < 12) (ha : adr ad γ c n = a) (hL : ln S c = L) (he : (aEnt c).1 = 3) {i : Int32} (d : decode cc pc = .ok (.laload, 1)) (kk : JJ X ad γ RQ fc fr lo cc nL own Ts ret (code) S (pc + 1) lv (.long (gB S c n i.toNatClampNeg) :: st)) : JJ X ad γ RQ fc fr lo cc nL own Ts ret (gd (ix i L) code) S pc lv (.int i :: .ref a :: st) := by
  obtain ⟨p, l, e, s, m, args, below, meth, c0', dC, dI, cy, A, c0, bc, bs⟩ := X
  intro o ho
  obtain ⟨hq, ho⟩ := gd_some ho
  obtain ⟨h1, h2⟩ := kk o ho
  refine ⟨h1, fun hX H locs ls hl hP hD hS hc => ?_⟩
  have h2 := h2 hX
  obtain ⟨hx, hb, hml, hown, hts, hK, hA, hlocks, hN, hR, hrt⟩ := hX
  obtain ⟨q0, -, hq1⟩ := wl_get cy ad γ S hm
  rw [co_lald cy ad γ S h12 he, ha, hL] at hq1
  exact va_lald hx hb hK hP q0 3 hq1 rfl (ix_in hq) d (h2 H locs ls hl hP hD hS hc)
theorem j_iast (pc : Nat)  {c n a L : Nat} (hm : (c, n) ∈ prs) (h12 : ¬ c < 12) (ha : adr ad γ c n = a) (hL : ln S c = L) (he : (aEnt c).1 = 0) {i : Int32} {x : Int32} (d : decode cc pc = .ok (.iastore, 1)) (kk : JJ X ad γ RQ fc fr lo cc nL own Ts ret (code) (pA S c n i.toNatClampNeg x) (pc + 1) lv (st)) : JJ X ad γ RQ fc fr lo cc nL own Ts ret (gd (ix i L) code) S pc lv (.int x :: .int i :: .ref a :: st) := by
  obtain ⟨p, l, e, s, m, args, below, meth, c0', dC, dI, cy, A, c0, bc, bs⟩ := X
  intro o ho
  obtain ⟨hq, ho⟩ := gd_some ho
  obtain ⟨h1, h2⟩ := kk o ho
  refine ⟨h1, fun hX H locs ls hl hP hD hS hc => ?_⟩
  have h2 := h2 hX
  obtain ⟨hx, hb, hml, hown, hts, hK, hA, hlocks, hN, hR, hrt⟩ := hX
  obtain ⟨q0, hq0, hq1⟩ := wl_get cy ad γ S hm
  have hval : x = x := rfl
  have hset : (wl cy ad γ S).set q0 (a, .inl (cy 0, L, .inl (upd (gA S c n) i.toNatClampNeg x))) = wl cy ad γ (pA S c n i.toNatClampNeg x) := by
    have h3 := wl_set (cy := cy) (ad := ad) (γ := γ) (S := S) (S' := pA S c n i.toNatClampNeg x) hq0 (pA_oth)
    rw [co_iald cy ad γ _ h12 he, show ln (pA S c n i.toNatClampNeg x) c = L from hL, ha] at h3
    rw [← h3, hval]
    congr 6
    funext j
    by_cases hj : j = i.toNatClampNeg
    · subst hj; rw [show gA (pA S c n i.toNatClampNeg x) c n i.toNatClampNeg = x from up3_self _ _ _ _ _]; simp [upd]
    · rw [show gA (pA S c n i.toNatClampNeg x) c n j = gA S c n j from up3_k hj]; simp [upd, hj]
  rw [co_iald cy ad γ S h12 he, ha, hL] at hq1
  refine va_iast hx hb hK hP hD hS q0 0 hq1 rfl (ix_in hq) d (fun H1 locs1 hP1 hD1 hS1 => ?_)
  rw [hset] at hP1 hD1
  exact h2 H1 locs1 ls hl hP1 hD1 hS1 hc
theorem j_bast (pc : Nat)  {c n a L : Nat} (hm : (c, n) ∈ prs) (h12 : ¬ c < 12) (ha : adr ad γ c n = a) (hL : ln S c = L) (he : (aEnt c).1 = 1) {i : Int32} {x : Int32} (d : decode cc pc = .ok (.bastore, 1)) (kk : JJ X ad γ RQ fc fr lo cc nL own Ts ret (code) (pA S c n i.toNatClampNeg (x.toInt8.toInt32)) (pc + 1) lv (st)) : JJ X ad γ RQ fc fr lo cc nL own Ts ret (gd (ix i L) code) S pc lv (.int x :: .int i :: .ref a :: st) := by
  obtain ⟨p, l, e, s, m, args, below, meth, c0', dC, dI, cy, A, c0, bc, bs⟩ := X
  intro o ho
  obtain ⟨hq, ho⟩ := gd_some ho
  obtain ⟨h1, h2⟩ := kk o ho
  refine ⟨h1, fun hX H locs ls hl hP hD hS hc => ?_⟩
  have h2 := h2 hX
  obtain ⟨hx, hb, hml, hown, hts, hK, hA, hlocks, hN, hR, hrt⟩ := hX
  obtain ⟨q0, hq0, hq1⟩ := wl_get cy ad γ S hm
  have hval : (vp_nar .byte x) = (x.toInt8.toInt32) := vp_nar_byte x
  have hset : (wl cy ad γ S).set q0 (a, .inl (cy 1, L, .inl (upd (gA S c n) i.toNatClampNeg (vp_nar .byte x)))) = wl cy ad γ (pA S c n i.toNatClampNeg (x.toInt8.toInt32)) := by
    have h3 := wl_set (cy := cy) (ad := ad) (γ := γ) (S := S) (S' := pA S c n i.toNatClampNeg (x.toInt8.toInt32)) hq0 (pA_oth)
    rw [co_bald cy ad γ _ h12 he, show ln (pA S c n i.toNatClampNeg (x.toInt8.toInt32)) c = L from hL, ha] at h3
    rw [← h3, hval]
    congr 6
    funext j
    by_cases hj : j = i.toNatClampNeg
    · subst hj; rw [show gA (pA S c n i.toNatClampNeg (x.toInt8.toInt32)) c n i.toNatClampNeg = (x.toInt8.toInt32) from up3_self _ _ _ _ _]; simp [upd]
    · rw [show gA (pA S c n i.toNatClampNeg (x.toInt8.toInt32)) c n j = gA S c n j from up3_k hj]; simp [upd, hj]
  rw [co_bald cy ad γ S h12 he, ha, hL] at hq1
  refine va_bast hx hb hK hP hD hS q0 1 hq1 rfl (ix_in hq) d (fun H1 locs1 hP1 hD1 hS1 => ?_)
  rw [hset] at hP1 hD1
  exact h2 H1 locs1 ls hl hP1 hD1 hS1 hc
theorem j_zast (pc : Nat)  {c n a L : Nat} (hm : (c, n) ∈ prs) (h12 : ¬ c < 12) (ha : adr ad γ c n = a) (hL : ln S c = L) (he : (aEnt c).1 = 2) {i : Int32} {x : Int32} (d : decode cc pc = .ok (.bastore, 1)) (kk : JJ X ad γ RQ fc fr lo cc nL own Ts ret (code) (pA S c n i.toNatClampNeg (x &&& 1)) (pc + 1) lv (st)) : JJ X ad γ RQ fc fr lo cc nL own Ts ret (gd (ix i L) code) S pc lv (.int x :: .int i :: .ref a :: st) := by
  obtain ⟨p, l, e, s, m, args, below, meth, c0', dC, dI, cy, A, c0, bc, bs⟩ := X
  intro o ho
  obtain ⟨hq, ho⟩ := gd_some ho
  obtain ⟨h1, h2⟩ := kk o ho
  refine ⟨h1, fun hX H locs ls hl hP hD hS hc => ?_⟩
  have h2 := h2 hX
  obtain ⟨hx, hb, hml, hown, hts, hK, hA, hlocks, hN, hR, hrt⟩ := hX
  obtain ⟨q0, hq0, hq1⟩ := wl_get cy ad γ S hm
  have hval : (vp_nar .boolean x) = (x &&& 1) := rfl
  have hset : (wl cy ad γ S).set q0 (a, .inl (cy 2, L, .inl (upd (gA S c n) i.toNatClampNeg (vp_nar .boolean x)))) = wl cy ad γ (pA S c n i.toNatClampNeg (x &&& 1)) := by
    have h3 := wl_set (cy := cy) (ad := ad) (γ := γ) (S := S) (S' := pA S c n i.toNatClampNeg (x &&& 1)) hq0 (pA_oth)
    rw [co_zald cy ad γ _ h12 he, show ln (pA S c n i.toNatClampNeg (x &&& 1)) c = L from hL, ha] at h3
    rw [← h3, hval]
    congr 6
    funext j
    by_cases hj : j = i.toNatClampNeg
    · subst hj; rw [show gA (pA S c n i.toNatClampNeg (x &&& 1)) c n i.toNatClampNeg = (x &&& 1) from up3_self _ _ _ _ _]; simp [upd]
    · rw [show gA (pA S c n i.toNatClampNeg (x &&& 1)) c n j = gA S c n j from up3_k hj]; simp [upd, hj]
  rw [co_zald cy ad γ S h12 he, ha, hL] at hq1
  refine va_zast hx hb hK hP hD hS q0 2 hq1 rfl (ix_in hq) d (fun H1 locs1 hP1 hD1 hS1 => ?_)
  rw [hset] at hP1 hD1
  exact h2 H1 locs1 ls hl hP1 hD1 hS1 hc
theorem j_last (pc : Nat)  {c n a L : Nat} (hm : (c, n) ∈ prs) (h12 : ¬ c < 12) (ha : adr ad γ c n = a) (hL : ln S c = L) (he : (aEnt c).1 = 3) {i : Int32} {x : Int64} (d : decode cc pc = .ok (.lastore, 1)) (kk : JJ X ad γ RQ fc fr lo cc nL own Ts ret (code) (pB S c n i.toNatClampNeg x) (pc + 1) lv (st)) : JJ X ad γ RQ fc fr lo cc nL own Ts ret (gd (ix i L) code) S pc lv (.long x :: .int i :: .ref a :: st) := by
  obtain ⟨p, l, e, s, m, args, below, meth, c0', dC, dI, cy, A, c0, bc, bs⟩ := X
  intro o ho
  obtain ⟨hq, ho⟩ := gd_some ho
  obtain ⟨h1, h2⟩ := kk o ho
  refine ⟨h1, fun hX H locs ls hl hP hD hS hc => ?_⟩
  have h2 := h2 hX
  obtain ⟨hx, hb, hml, hown, hts, hK, hA, hlocks, hN, hR, hrt⟩ := hX
  obtain ⟨q0, hq0, hq1⟩ := wl_get cy ad γ S hm
  have hval : x = x := rfl
  have hset : (wl cy ad γ S).set q0 (a, .inl (cy 3, L, .inr (.inl (vp_updL (gB S c n) i.toNatClampNeg x)))) = wl cy ad γ (pB S c n i.toNatClampNeg x) := by
    have h3 := wl_set (cy := cy) (ad := ad) (γ := γ) (S := S) (S' := pB S c n i.toNatClampNeg x) hq0 (pB_oth)
    rw [co_lald cy ad γ _ h12 he, show ln (pB S c n i.toNatClampNeg x) c = L from hL, ha] at h3
    rw [← h3, hval]
    congr 7
    funext j
    by_cases hj : j = i.toNatClampNeg
    · subst hj; rw [show gB (pB S c n i.toNatClampNeg x) c n i.toNatClampNeg = x from up3_self _ _ _ _ _]; simp [vp_updL]
    · rw [show gB (pB S c n i.toNatClampNeg x) c n j = gB S c n j from up3_k hj]; simp [vp_updL, hj]
  rw [co_lald cy ad γ S h12 he, ha, hL] at hq1
  refine va_last hx hb hK hP hD hS q0 3 hq1 rfl (ix_in hq) d (fun H1 locs1 hP1 hD1 hS1 => ?_)
  rw [hset] at hP1 hD1
  exact h2 H1 locs1 ls hl hP1 hD1 hS1 hc
theorem co_it (cy : Nat → ClassId) (ad : Nat → Nat → Nat) (γ : Nat → Nat) (S : St) {c n : Nat} (h : ¬ c < 12) (he : (aEnt c).1 = 4) : co cy ad γ S c n = .inl (cy 4, ln S c, .inr (.inr (.inr (.inr (fun i => some (ad 3 (34 * n + i))))))) := by unfold co; rw [if_neg h, he]; rfl
theorem j_aald (pc : Nat)  {c n a L : Nat} (hm : (c, n) ∈ prs) (h12 : ¬ c < 12) (ha : adr ad γ c n = a) (hL : ln S c = L) (he : (aEnt c).1 = 4) {i : Int32} (d : decode cc pc = .ok (.aaload, 1)) (kk : ix i L = true → JJ X ad γ RQ fc fr lo cc nL own Ts ret (code) S (pc + 1) lv (.ref (ad 3 (34 * n + i.toNatClampNeg)) :: st)) : JJ X ad γ RQ fc fr lo cc nL own Ts ret (gd (ix i L) code) S pc lv (.int i :: .ref a :: st) := by
  obtain ⟨p, l, e, s, m, args, below, meth, c0', dC, dI, cy, A, c0, bc, bs⟩ := X
  intro o ho
  obtain ⟨hq, ho⟩ := gd_some ho
  obtain ⟨h1, h2⟩ := kk hq o ho
  refine ⟨h1, fun hX H locs ls hl hP hD hS hc => ?_⟩
  have h2 := h2 hX
  obtain ⟨hx, hb, hml, hown, hts, hK, hA, hlocks, hN, hR, hrt⟩ := hX
  obtain ⟨q0, -, hq1⟩ := wl_get cy ad γ S hm
  rw [co_it cy ad γ S h12 he, ha, hL] at hq1
  exact va_aldq hx hb hK hP q0 4 hq1 rfl (ix_in hq) d (h2 H locs ls hl hP hD hS hc)
theorem j_alen_iald (pc : Nat)  {c n a L : Nat} (hm : (c, n) ∈ prs) (h12 : ¬ c < 12) (ha : adr ad γ c n = a) (hL : ln S c = L) (he : (aEnt c).1 = 0) (d : decode cc pc = .ok (.arraylength, 1)) (kk : JJ X ad γ RQ fc fr lo cc nL own Ts ret (code) S (pc + 1) lv (.int (Int32.ofNat L) :: st)) : JJ X ad γ RQ fc fr lo cc nL own Ts ret (code) S pc lv (.ref a :: st) := by
  obtain ⟨p, l, e, s, m, args, below, meth, c0', dC, dI, cy, A, c0, bc, bs⟩ := X
  intro o ho
  obtain ⟨h1, h2⟩ := kk o ho
  refine ⟨h1, fun hX H locs ls hl hP hD hS hc => ?_⟩
  have h2 := h2 hX
  obtain ⟨hx, hb, hml, hown, hts, hK, hA, hlocks, hN, hR, hrt⟩ := hX
  obtain ⟨q0, -, hq1⟩ := wl_get cy ad γ S hm
  rw [co_iald cy ad γ S h12 he, ha, hL] at hq1
  exact va_alen hx hb hK hP q0 0 hq1 rfl rfl d (h2 H locs ls hl hP hD hS hc)
theorem j_alen_lald (pc : Nat)  {c n a L : Nat} (hm : (c, n) ∈ prs) (h12 : ¬ c < 12) (ha : adr ad γ c n = a) (hL : ln S c = L) (he : (aEnt c).1 = 3) (d : decode cc pc = .ok (.arraylength, 1)) (kk : JJ X ad γ RQ fc fr lo cc nL own Ts ret (code) S (pc + 1) lv (.int (Int32.ofNat L) :: st)) : JJ X ad γ RQ fc fr lo cc nL own Ts ret (code) S pc lv (.ref a :: st) := by
  obtain ⟨p, l, e, s, m, args, below, meth, c0', dC, dI, cy, A, c0, bc, bs⟩ := X
  intro o ho
  obtain ⟨h1, h2⟩ := kk o ho
  refine ⟨h1, fun hX H locs ls hl hP hD hS hc => ?_⟩
  have h2 := h2 hX
  obtain ⟨hx, hb, hml, hown, hts, hK, hA, hlocks, hN, hR, hrt⟩ := hX
  obtain ⟨q0, -, hq1⟩ := wl_get cy ad γ S hm
  rw [co_lald cy ad γ S h12 he, ha, hL] at hq1
  exact va_alen hx hb hK hP q0 3 hq1 rfl rfl d (h2 H locs ls hl hP hD hS hc)
theorem j_iret (pc : Nat) {out : ρ → Option Value × St} {o : ρ} {v : Int32}  (hout : out o = (some (.int v), S)) (d : decode cc pc = .ok (.ireturn, 1)) : JJ X ad γ (RQm X ad fr lo out) (fcm out) fr lo cc nL own Ts (some .int) (some o) S pc lv [.int v] := by
  obtain ⟨p, l, e, s, m, args, below, meth, c0', dC, dI, cy, A, c0, bc, bs⟩ := X
  intro o2 ho
  cases ho
  refine ⟨by show gC S ≤ gC (out o).2; rw [hout]; exact Nat.le_refl _, fun hX H locs ls hl hP hD hS hc => ?_⟩
  obtain ⟨hx, hb, hml, hown, hts, hK, hA, hlocks, hN, hR, hr⟩ := hX
  simp only [RQm, hout]
  exact W.iret hx hb hr (fun t ht hW => ⟨⟨rfl, γ, by rw [ht]; exact hP, va_K.moved hW.alike hK, hD⟩, hS.F ht⟩) hS.2.2 d
theorem j_zret (pc : Nat) {out : ρ → Option Value × St} {o : ρ} {v : Int32} (hn : narrow .boolean (.int v) = .int v) (hout : out o = (some (.int v), S)) (d : decode cc pc = .ok (.ireturn, 1)) : JJ X ad γ (RQm X ad fr lo out) (fcm out) fr lo cc nL own Ts (some .boolean) (some o) S pc lv [.int v] := by
  obtain ⟨p, l, e, s, m, args, below, meth, c0', dC, dI, cy, A, c0, bc, bs⟩ := X
  intro o2 ho
  cases ho
  refine ⟨by show gC S ≤ gC (out o).2; rw [hout]; exact Nat.le_refl _, fun hX H locs ls hl hP hD hS hc => ?_⟩
  obtain ⟨hx, hb, hml, hown, hts, hK, hA, hlocks, hN, hR, hr⟩ := hX
  simp only [RQm, hout]
  exact W.zret hx hb hr hn (fun t ht hW => ⟨⟨rfl, γ, by rw [ht]; exact hP, va_K.moved hW.alike hK, hD⟩, hS.F ht⟩) hS.2.2 d
theorem j_lret (pc : Nat) {out : ρ → Option Value × St} {o : ρ} {v : Int64}  (hout : out o = (some (.long v), S)) (d : decode cc pc = .ok (.lreturn, 1)) : JJ X ad γ (RQm X ad fr lo out) (fcm out) fr lo cc nL own Ts (some .long) (some o) S pc lv [.long v] := by
  obtain ⟨p, l, e, s, m, args, below, meth, c0', dC, dI, cy, A, c0, bc, bs⟩ := X
  intro o2 ho
  cases ho
  refine ⟨by show gC S ≤ gC (out o).2; rw [hout]; exact Nat.le_refl _, fun hX H locs ls hl hP hD hS hc => ?_⟩
  obtain ⟨hx, hb, hml, hown, hts, hK, hA, hlocks, hN, hR, hr⟩ := hX
  simp only [RQm, hout]
  exact W.lret hx hb hr (fun t ht hW => ⟨⟨rfl, γ, by rw [ht]; exact hP, va_K.moved hW.alike hK, hD⟩, hS.F ht⟩) hS.2.2 d
theorem j_vret (pc : Nat) {out : ρ → Option Value × St} {o : ρ}   (hout : out o = (none, S)) (d : decode cc pc = .ok (.return_, 1)) : JJ X ad γ (RQm X ad fr lo out) (fcm out) fr lo cc nL own Ts (none) (some o) S pc lv ([] : List Value) := by
  obtain ⟨p, l, e, s, m, args, below, meth, c0', dC, dI, cy, A, c0, bc, bs⟩ := X
  intro o2 ho
  cases ho
  refine ⟨by show gC S ≤ gC (out o).2; rw [hout]; exact Nat.le_refl _, fun hX H locs ls hl hP hD hS hc => ?_⟩
  obtain ⟨hx, hb, hml, hown, hts, hK, hA, hlocks, hN, hR, hr⟩ := hX
  simp only [RQm, hout]
  exact W.vret hx hb hr (fun t ht hW => ⟨⟨rfl, γ, by rw [ht]; exact hP, va_K.moved hW.alike hK, hD⟩, hS.F ht⟩) hS.2.2 d
theorem j_aret (pc : Nat) {out : ρ → Option Value × St} {o : ρ} {a : Nat} {nm : String} (hout : out o = (some (.ref a), S)) (d : decode cc pc = .ok (.areturn, 1)) : JJ X ad γ (RQm X ad fr lo out) (fcm out) fr lo cc nL own Ts (some (.object nm)) (some o) S pc lv [.ref a] := by
  obtain ⟨p, l, e, s, m, args, below, meth, c0', dC, dI, cy, A, c0, bc, bs⟩ := X
  intro o2 ho
  cases ho
  refine ⟨by show gC S ≤ gC (out o).2; rw [hout]; exact Nat.le_refl _, fun hX H locs ls hl hP hD hS hc => ?_⟩
  obtain ⟨hx, hb, hml, hown, hts, hK, hA, hlocks, hN, hR, hr⟩ := hX
  simp only [RQm, hout]
  exact W.aret hx hb hr (Or.inl ⟨_, rfl⟩) (Or.inr ⟨_, rfl⟩) (fun t ht hW => ⟨⟨rfl, γ, by rw [ht]; exact hP, va_K.moved hW.alike hK, hD⟩, hS.F ht⟩) hS.2.2 d
theorem NWs.same {u U : State} (h : u.vm = U.vm) (q : NWs u) : NWs U := ⟨fun w hw => va_Nw.same rfl h (q.1 w hw), fun x hx => va_Nw.same rfl h (q.2 x hx)⟩
theorem Bp_blind (dC : Nat → ClassId) (dI : Nat → Nat → Nat) (cy : Nat → ClassId) (ad : Nat → Nat → Nat) (γ : Nat → Nat) (S : St) (sz : Nat) (av : List Value) : FrameBlind (va_Pc av (Bp dC dI cy ad γ S sz)) := fun a U g mk q => by
  obtain ⟨q0, q1, qP, qK, qD, qN⟩ := q
  exact ⟨q0, q1, qP, va_K.moved (u := U) (U := U.calling g mk a) (Vm.Alike.refl U.vm) qK, qD, NWs.same (u := U) (U := U.calling g mk a) rfl qN⟩
theorem w_call {p : Program} {l : Launch} {e : Env} {R : Room} {s : State} {m : MethodId} {args : Array Value} {below : List Frame} {meth : Method} {c : Code} {H : Heap} {locs : List Loc} {cells slots mc ms : Nat} {Q : State → Prop} {pc : Nat} {ls : Array Slot} {st0 rest : List Value} {v : Option Value} {B : State → Prop} {A1 A0 : Nat → Prop} {a : Array Value} {H0 : Heap}
    (hr : va_Run p l e R s m args below meth c H locs cells slots mc ms (F0 m pc ls st0) rest (Qp v B A1 a) A1) (hS : va_S A0 H0 H locs) (hA : ∀ q, A1 q → A0 q)
    (kk : ∀ (t : State) (locs1 : List Loc), s.vm.Alike t.vm → B t → va_S A0 H0 t.heap locs1 → W p l e R s m args below meth c t.heap locs1 (cells + mc) (slots + ms) Q (F0 m (pc + 3) ls (v.toList ++ rest))) : W p l e R s m args below meth c H locs cells slots Q (F0 m pc ls st0) := by
  intro T hT X
  obtain ⟨v', st₀, t, T', L, h0, X', hL, e1, e2, ⟨⟨hv, hb⟩, hz, hk⟩, st⟩ := hr T hT X
  cases hv
  rw [h0] at hz hk
  obtain ⟨t2, a1, b1⟩ := kk t (locs ++ L) (by rw [← e2]; exact X'.warmed.alike) hb
    ⟨Nat.le_trans hS.1 hz, fun q h1 h2 => by rw [hk q (Nat.lt_of_lt_of_le h1 hS.1) (fun z => h2 (hA q z))]; exact hS.2.1 q h1 h2, fun q hq => by
      rcases List.mem_append.mp hq with h | h
      · exact hS.2.2 q h
      · exact hA _ (hL q h)⟩ T' e1 X'
  exact ⟨t2, st t2 a1, b1⟩
theorem wl_A {cy : Nat → ClassId} {ad : Nat → Nat → Nat} {γ : Nat → Nat} {S : St} {A : Nat → Prop} {H0 H : Heap} {locs : List Loc} (hD : va_D A (wl cy ad γ S)) (hS : va_S A H0 H locs) (hA : ∀ q, H0.size ≤ q → A q) : ∀ q, va_A (wl cy ad γ S) H.size q → A q := by
  intro q hq
  rcases hq with ⟨k, e, hk⟩ | hq
  · exact hD.2 k _ hk
  · exact hA q (Nat.le_trans hS.1 hq)
theorem j_callV (pc : Nat)  {ci nn : Nat} {q : vw_C} (hcl : clX[ci]? = some q) (h12 : ci < 12) (hm : (ci, nn) ∈ prs) {β : Type} {f : Option β} {K : β → Option ρ} (v : β → Option Value) (S2 : β → St) {index n maxL fr2 lo2 : Nat} {bytes : ByteArray} {ret2 : Option FieldType} {ws ws2 : List Cond} {st0 rest As : List Value} {y : MethodName} (hG : GoodIn Ts (wsV own index q.1 y ws)) (hw : ws = Cond.code y bytes maxL ret2 :: ws2) (hd : y.cls = q.1 ∧ y.cls ≠ "java/lang/invoke/MethodHandle" ∧ y.cls ≠ "java/lang/invoke/VarHandle" ∧ (parseMethodDescriptor y.desc).map (fun d => d.parameters.length) = some n) (hR2 : fr2 + 1 ≤ fr ∧ 8 + (maxL + 11) + lo2 ≤ lo) (hst : st0 = As.reverse ++ .ref (ad ci nn) :: rest) (hn : As.length = n) (hw8 : (rest.map fun v => v.category).sum ≤ 8) (d : decode cc pc = .ok (.invokevirtual index, 3)) (hc : ∀ b, f = some b → CTX X ad y ws fr2 lo2 (.ref (ad ci nn) :: As) S (v b) (S2 b)) (kk : ∀ b, f = some b → ∀ γ : Nat → Nat, JJ X ad γ RQ fc fr lo cc nL own Ts ret (K b) (S2 b) (pc + 3) lv ((v b).toList ++ rest)) : JJ X ad γ RQ fc fr lo cc nL own Ts ret (cal f K) S pc lv st0 := by
  obtain ⟨p, l, e, s, m, args, below, meth, c0', dC, dI, cy, A, c0, bc, bs⟩ := X
  have X0 : Ctx := (p, l, e, s, m, args, below, meth, c0', dC, dI, cy, A, c0, bc, bs)
  intro o ho
  cases hf : f with
  | none => rw [hf] at ho; cases ho
  | some b =>
    rw [hf] at ho
    obtain ⟨hle, hM⟩ := hc b hf
    obtain ⟨h1, -⟩ := kk b hf γ o ho
    have hle := hle X0
    refine ⟨Nat.le_trans hle h1, fun hX H locs ls hl hP hD hS hcc => ?_⟩
    have hX2 := hX
    obtain ⟨hx, hb, hml, hown, hts, hK, hA, hlocks, hN, hR, hrt⟩ := hX
    obtain ⟨r1, r2, r3, r4⟩ := hR o
    obtain ⟨q0, -, hq⟩ := wl_get cy ad γ S hm
    rw [co_obj cy ad γ S h12, adr_obj h12] at hq
    have hrec := va_recv hK hP hcl hq
    have hfit : (bc + 6 * (gC S - c0)) + (0 + 6 * (gC (S2 b) - gC S)) ≤ (RQ o).1.cells ∧ (bs + 6 * (gC S - c0)) + (0 + 6 * (gC (S2 b) - gC S)) ≤ (RQ o).1.slots := by constructor <;> omega
    subst hst
    refine w_call (A1 := va_A (wl cy ad γ S) H.size) (va_runV ⟨hx, hb, hml, hown, hts⟩ (hM H.size γ) (cwV n hts hG hw rfl rfl hd (by rw [r1, r2]; exact hR2)) ⟨Bp_blind dC dI cy ad γ S H.size _, hrec, fun U hU hW => ⟨rfl, by rw [hU], by rw [hU]; exact hP, va_K.moved hW.alike hK, hD.weaken (fun _ _ _ _ => trivial), hN.warm hW⟩⟩ rfl hn hl.1 rfl (lv_room hw8) d hfit) hS (wl_A hD hS hA) (fun t locs1 hvm hB hS1 => ?_)
    obtain ⟨γ1, hP1, hK1, hD1⟩ := hB
    refine W.cs (cells' := bc + 6 * (gC (S2 b) - c0)) (slots' := bs + 6 * (gC (S2 b) - c0)) (by omega) (by omega) ?_
    exact (kk b hf γ1 o ho).2 hX2 t.heap locs1 ls hl hP1 (hD1.weaken (fun _ _ _ h => wl_A hD hS hA _ h)) hS1 (by omega)
theorem j_callS (pc : Nat)  {β : Type} {f : Option β} {K : β → Option ρ} (v : β → Option Value) (S2 : β → St) {index n maxL fr2 lo2 : Nat} {bytes : ByteArray} {ret2 : Option FieldType} {ws ws2 : List Cond} {st0 rest As : List Value} {y : MethodName} (hG : GoodIn Ts (va_wsS own index y ws)) (hw : ws = Cond.code y bytes maxL ret2 :: ws2) (hd : y.cls ≠ "java/lang/invoke/MethodHandle" ∧ y.cls ≠ "java/lang/invoke/VarHandle" ∧ (parseMethodDescriptor y.desc).map (fun d => d.parameters.length) = some n) (hR2 : fr2 + 1 ≤ fr ∧ 8 + (maxL + 11) + lo2 ≤ lo) (hst : st0 = As.reverse ++ rest) (hn : As.length = n) (hw8 : (rest.map fun v => v.category).sum ≤ 8) (d : decode cc pc = .ok (.invokestatic index, 3)) (hc : ∀ b, f = some b → CTX X ad y ws fr2 lo2 As S (v b) (S2 b)) (kk : ∀ b, f = some b → ∀ γ : Nat → Nat, JJ X ad γ RQ fc fr lo cc nL own Ts ret (K b) (S2 b) (pc + 3) lv ((v b).toList ++ rest)) : JJ X ad γ RQ fc fr lo cc nL own Ts ret (cal f K) S pc lv st0 := by
  obtain ⟨p, l, e, s, m, args, below, meth, c0', dC, dI, cy, A, c0, bc, bs⟩ := X
  have X0 : Ctx := (p, l, e, s, m, args, below, meth, c0', dC, dI, cy, A, c0, bc, bs)
  intro o ho
  cases hf : f with
  | none => rw [hf] at ho; cases ho
  | some b =>
    rw [hf] at ho
    obtain ⟨hle, hM⟩ := hc b hf
    obtain ⟨h1, -⟩ := kk b hf γ o ho
    have hle := hle X0
    refine ⟨Nat.le_trans hle h1, fun hX H locs ls hl hP hD hS hcc => ?_⟩
    have hX2 := hX
    obtain ⟨hx, hb, hml, hown, hts, hK, hA, hlocks, hN, hR, hrt⟩ := hX
    obtain ⟨r1, r2, r3, r4⟩ := hR o

    have hfit : (bc + 6 * (gC S - c0)) + (0 + 6 * (gC (S2 b) - gC S)) ≤ (RQ o).1.cells ∧ (bs + 6 * (gC S - c0)) + (0 + 6 * (gC (S2 b) - gC S)) ≤ (RQ o).1.slots := by constructor <;> omega
    subst hst
    refine w_call (A1 := va_A (wl cy ad γ S) H.size) (va_runS ⟨hx, hb, hml, hown, hts⟩ (hM H.size γ) (va_cwS n hts hG hw rfl rfl hd (by rw [r1, r2]; exact hR2)) ⟨Bp_blind dC dI cy ad γ S H.size _, fun U hU hW => ⟨rfl, by rw [hU], by rw [hU]; exact hP, va_K.moved hW.alike hK, hD.weaken (fun _ _ _ _ => trivial), hN.warm hW⟩⟩ rfl hn hl.1 rfl (lv_room hw8) d hfit) hS (wl_A hD hS hA) (fun t locs1 hvm hB hS1 => ?_)
    obtain ⟨γ1, hP1, hK1, hD1⟩ := hB
    refine W.cs (cells' := bc + 6 * (gC (S2 b) - c0)) (slots' := bs + 6 * (gC (S2 b) - c0)) (by omega) (by omega) ?_
    exact (kk b hf γ1 o ho).2 hX2 t.heap locs1 ls hl hP1 (hD1.weaken (fun _ _ _ h => wl_A hD hS hA _ h)) hS1 (by omega)
theorem j_callSN (pc : Nat)  {β : Type} {f : Option β} {K : β → Option ρ} (v : β → Option Value) (S2 : β → St) {index n maxL fr2 lo2 : Nat} {bytes : ByteArray} {ret2 : Option FieldType} {ws ws2 : List Cond} {st0 rest As : List Value} {y : MethodName} {host : String} (hG : GoodIn Ts ws) (hw : ws = Cond.code y bytes maxL ret2 :: ws2) (hnw : (own, index, y, host) ∈ nwM) (hst2 : Cond.static y ∈ Ts) (hini : Cond.initialized y.cls ∈ Ts) (hd : y.cls ≠ "java/lang/invoke/MethodHandle" ∧ y.cls ≠ "java/lang/invoke/VarHandle" ∧ (parseMethodDescriptor y.desc).map (fun d => d.parameters.length) = some n) (hR2 : fr2 + 1 ≤ fr ∧ 8 + (maxL + 11) + lo2 ≤ lo) (hst : st0 = As.reverse ++ rest) (hn : As.length = n) (hw8 : (rest.map fun v => v.category).sum ≤ 8) (d : decode cc pc = .ok (.invokestatic index, 3)) (hc : ∀ b, f = some b → CTX X ad y ws fr2 lo2 As S (v b) (S2 b)) (kk : ∀ b, f = some b → ∀ γ : Nat → Nat, JJ X ad γ RQ fc fr lo cc nL own Ts ret (K b) (S2 b) (pc + 3) lv ((v b).toList ++ rest)) : JJ X ad γ RQ fc fr lo cc nL own Ts ret (cal f K) S pc lv st0 := by
  obtain ⟨p, l, e, s, m, args, below, meth, c0', dC, dI, cy, A, c0, bc, bs⟩ := X
  have X0 : Ctx := (p, l, e, s, m, args, below, meth, c0', dC, dI, cy, A, c0, bc, bs)
  intro o ho
  cases hf : f with
  | none => rw [hf] at ho; cases ho
  | some b =>
    rw [hf] at ho
    obtain ⟨hle, hM⟩ := hc b hf
    obtain ⟨h1, -⟩ := kk b hf γ o ho
    have hle := hle X0
    refine ⟨Nat.le_trans hle h1, fun hX H locs ls hl hP hD hS hcc => ?_⟩
    have hX2 := hX
    obtain ⟨hx, hb, hml, hown, hts, hK, hA, hlocks, hN, hR, hrt⟩ := hX
    obtain ⟨r1, r2, r3, r4⟩ := hR o

    have hfit : (bc + 6 * (gC S - c0)) + (0 + 6 * (gC (S2 b) - gC S)) ≤ (RQ o).1.cells ∧ (bs + 6 * (gC S - c0)) + (0 + 6 * (gC (S2 b) - gC S)) ≤ (RQ o).1.slots := by constructor <;> omega
    subst hst
    refine w_call (A1 := va_A (wl cy ad γ S) H.size) (va_runSN ⟨hx, hb, hml, hown, hts⟩ (hM H.size γ) ⟨va_cnB n hts hG hw rfl rfl (hN.1 _ hnw) (hts _ hini) hd (by rw [r1, r2]; exact hR2), hts _ hst2, trivial⟩ ⟨Bp_blind dC dI cy ad γ S H.size _, fun U hU hW => ⟨rfl, by rw [hU], by rw [hU]; exact hP, va_K.moved hW.alike hK, hD.weaken (fun _ _ _ _ => trivial), hN.warm hW⟩⟩ rfl hn hl.1 rfl (lv_room hw8) d hfit) hS (wl_A hD hS hA) (fun t locs1 hvm hB hS1 => ?_)
    obtain ⟨γ1, hP1, hK1, hD1⟩ := hB
    refine W.cs (cells' := bc + 6 * (gC (S2 b) - c0)) (slots' := bs + 6 * (gC (S2 b) - c0)) (by omega) (by omega) ?_
    exact (kk b hf γ1 o ho).2 hX2 t.heap locs1 ls hl hP1 (hD1.weaken (fun _ _ _ h => wl_A hD hS hA _ h)) hS1 (by omega)
theorem j_callU (pc : Nat)  {ci nn : Nat} {q : vw_C} (hcl : clX[ci]? = some q) (h12 : ci < 12) (hm : (ci, nn) ∈ prs) {β : Type} {f : Option β} {K : β → Option ρ} (v : β → Option Value) (S2 : β → St) {index n maxL fr2 lo2 : Nat} {bytes : ByteArray} {ret2 : Option FieldType} {ws ws2 : List Cond} {st0 rest As : List Value} {owner : String} {x y : MethodName} (hG : GoodIn Ts (va_wsU own index q.1 owner x y ws)) (hw : ws = Cond.code y bytes maxL ret2 :: ws2) (hyx : y = ⟨owner, x.name, x.desc⟩) (hd : owner ≠ "java/lang/invoke/MethodHandle" ∧ owner ≠ "java/lang/invoke/VarHandle" ∧ (parseMethodDescriptor x.desc).map (fun d => d.parameters.length) = some n) (hR2 : fr2 + 1 ≤ fr ∧ 8 + (maxL + 11) + lo2 ≤ lo) (hst : st0 = As.reverse ++ .ref (ad ci nn) :: rest) (hn : As.length = n) (hw8 : (rest.map fun v => v.category).sum ≤ 8) (d : decode cc pc = .ok (.invokevirtual index, 3)) (hc : ∀ b, f = some b → CTX X ad y ws fr2 lo2 (.ref (ad ci nn) :: As) S (v b) (S2 b)) (kk : ∀ b, f = some b → ∀ γ : Nat → Nat, JJ X ad γ RQ fc fr lo cc nL own Ts ret (K b) (S2 b) (pc + 3) lv ((v b).toList ++ rest)) : JJ X ad γ RQ fc fr lo cc nL own Ts ret (cal f K) S pc lv st0 := by
  obtain ⟨p, l, e, s, m, args, below, meth, c0', dC, dI, cy, A, c0, bc, bs⟩ := X
  have X0 : Ctx := (p, l, e, s, m, args, below, meth, c0', dC, dI, cy, A, c0, bc, bs)
  intro o ho
  cases hf : f with
  | none => rw [hf] at ho; cases ho
  | some b =>
    rw [hf] at ho
    obtain ⟨hle, hM⟩ := hc b hf
    obtain ⟨h1, -⟩ := kk b hf γ o ho
    have hle := hle X0
    refine ⟨Nat.le_trans hle h1, fun hX H locs ls hl hP hD hS hcc => ?_⟩
    have hX2 := hX
    obtain ⟨hx, hb, hml, hown, hts, hK, hA, hlocks, hN, hR, hrt⟩ := hX
    obtain ⟨r1, r2, r3, r4⟩ := hR o
    obtain ⟨q0, -, hq⟩ := wl_get cy ad γ S hm
    rw [co_obj cy ad γ S h12, adr_obj h12] at hq
    have hrec := va_recv hK hP hcl hq
    have hfit : (bc + 6 * (gC S - c0)) + (0 + 6 * (gC (S2 b) - gC S)) ≤ (RQ o).1.cells ∧ (bs + 6 * (gC S - c0)) + (0 + 6 * (gC (S2 b) - gC S)) ≤ (RQ o).1.slots := by constructor <;> omega
    subst hst
    refine w_call (A1 := va_A (wl cy ad γ S) H.size) (va_runU ⟨hx, hb, hml, hown, hts⟩ (hM H.size γ) (va_cwU n hts hG hw rfl rfl hyx hd (by rw [r1, r2]; exact hR2)) ⟨Bp_blind dC dI cy ad γ S H.size _, hrec, fun U hU hW => ⟨rfl, by rw [hU], by rw [hU]; exact hP, va_K.moved hW.alike hK, hD.weaken (fun _ _ _ _ => trivial), hN.warm hW⟩⟩ rfl hn hl.1 rfl (lv_room hw8) d hfit) hS (wl_A hD hS hA) (fun t locs1 hvm hB hS1 => ?_)
    obtain ⟨γ1, hP1, hK1, hD1⟩ := hB
    refine W.cs (cells' := bc + 6 * (gC (S2 b) - c0)) (slots' := bs + 6 * (gC (S2 b) - c0)) (by omega) (by omega) ?_
    exact (kk b hf γ1 o ho).2 hX2 t.heap locs1 ls hl hP1 (hD1.weaken (fun _ _ _ h => wl_A hD hS hA _ h)) hS1 (by omega)
theorem j_callA (pc : Nat)  {ci nn : Nat} {q : vw_C} (hcl : clX[ci]? = some q) (h12 : ci < 12) (hm : (ci, nn) ∈ prs) {β : Type} {f : Option β} {K : β → Option ρ} (v : β → Option Value) (S2 : β → St) {index n maxL fr2 lo2 : Nat} {bytes : ByteArray} {ret2 : Option FieldType} {ws ws2 : List Cond} {st0 rest As : List Value} {owner : String} {x y : MethodName} (hG : GoodIn Ts (va_wsU own index q.1 owner x y ws)) (hw : ws = Cond.code y bytes maxL ret2 :: ws2) (hz : (⟨owner, x.name, x.desc⟩ : MethodName) ∈ nwD) (hd : owner ≠ "java/lang/invoke/MethodHandle" ∧ owner ≠ "java/lang/invoke/VarHandle" ∧ (parseMethodDescriptor x.desc).map (fun d => d.parameters.length) = some n) (hR2 : fr2 + 1 ≤ fr ∧ 8 + (maxL + 11) + lo2 ≤ lo) (hst : st0 = As.reverse ++ .ref (ad ci nn) :: rest) (hn : As.length = n) (hw8 : (rest.map fun v => v.category).sum ≤ 8) (d : decode cc pc = .ok (.invokevirtual index, 3)) (hc : ∀ b, f = some b → CTX X ad y ws fr2 lo2 (.ref (ad ci nn) :: As) S (v b) (S2 b)) (kk : ∀ b, f = some b → ∀ γ : Nat → Nat, JJ X ad γ RQ fc fr lo cc nL own Ts ret (K b) (S2 b) (pc + 3) lv ((v b).toList ++ rest)) : JJ X ad γ RQ fc fr lo cc nL own Ts ret (cal f K) S pc lv st0 := by
  obtain ⟨p, l, e, s, m, args, below, meth, c0', dC, dI, cy, A, c0, bc, bs⟩ := X
  have X0 : Ctx := (p, l, e, s, m, args, below, meth, c0', dC, dI, cy, A, c0, bc, bs)
  intro o ho
  cases hf : f with
  | none => rw [hf] at ho; cases ho
  | some b =>
    rw [hf] at ho
    obtain ⟨hle, hM⟩ := hc b hf
    obtain ⟨h1, -⟩ := kk b hf γ o ho
    have hle := hle X0
    refine ⟨Nat.le_trans hle h1, fun hX H locs ls hl hP hD hS hcc => ?_⟩
    have hX2 := hX
    obtain ⟨hx, hb, hml, hown, hts, hK, hA, hlocks, hN, hR, hrt⟩ := hX
    obtain ⟨r1, r2, r3, r4⟩ := hR o
    obtain ⟨q0, -, hq⟩ := wl_get cy ad γ S hm
    rw [co_obj cy ad γ S h12, adr_obj h12] at hq
    have hrec := va_recv hK hP hcl hq
    have hfit : (bc + 6 * (gC S - c0)) + (0 + 6 * (gC (S2 b) - gC S)) ≤ (RQ o).1.cells ∧ (bs + 6 * (gC S - c0)) + (0 + 6 * (gC (S2 b) - gC S)) ≤ (RQ o).1.slots := by constructor <;> omega
    subst hst
    refine w_call (A1 := va_A (wl cy ad γ S) H.size) (va_runU ⟨hx, hb, hml, hown, hts⟩ (hM H.size γ) (va_cwA n hts hG hw rfl rfl (hN.2 _ hz) hd (by rw [r1, r2]; exact hR2)) ⟨Bp_blind dC dI cy ad γ S H.size _, hrec, fun U hU hW => ⟨rfl, by rw [hU], by rw [hU]; exact hP, va_K.moved hW.alike hK, hD.weaken (fun _ _ _ _ => trivial), hN.warm hW⟩⟩ rfl hn hl.1 rfl (lv_room hw8) d hfit) hS (wl_A hD hS hA) (fun t locs1 hvm hB hS1 => ?_)
    obtain ⟨γ1, hP1, hK1, hD1⟩ := hB
    refine W.cs (cells' := bc + 6 * (gC (S2 b) - c0)) (slots' := bs + 6 * (gC (S2 b) - c0)) (by omega) (by omega) ?_
    exact (kk b hf γ1 o ho).2 hX2 t.heap locs1 ls hl hP1 (hD1.weaken (fun _ _ _ h => wl_A hD hS hA _ h)) hS1 (by omega)
end HROWS
/-- a contract out of a walk -/
theorem ct_of {ρ : Type} {l : Launch} {dC : Nat → ClassId} {dI : Nat → Nat → Nat} {cy : Nat → ClassId} {ad : Nat → Nat → Nat} {y : MethodName} {ws ws2 : List Cond} {cc : ByteArray} {maxL : Nat} {ret : Option FieldType} {fr lo : Nat} {av : List Value} {lv : List (Nat × Value)} {S : St} {code : Option ρ} (out : ρ → Option Value × St) (hy : plainName y.cls = true) (hw : ws = Cond.code y cc maxL ret :: ws2) (hlen : (lg_sl av).length ≤ maxL) (hlv : lv_args 0 av = lv)
    (h : ∀ (X : Ctx) (γ : Nat → Nat), JJ X ad γ (RQm X ad fr lo out) (fcm out) fr lo cc maxL y.cls ws ret code S 0 lv []) :
    ∀ o, code = some o → CT l dC dI cy ad y ws fr lo av S (out o).1 (out o).2 := by
  intro o ho
  refine ⟨fun X => (h X (fun _ => 0) o ho).1, fun sz γ => ?_⟩
  refine Met.ofW (cc := cc) (maxL := maxL) (ret := ret) hy hw ?_
  intro p e s m args below meth c s₁ B hml hv
  obtain ⟨rfl, hsz, hP, hK, hD, hN⟩ := hv
  obtain ⟨h1, h2⟩ := h (p, l, e, s, m, av.toArray, below, meth, c, dC, dI, cy, va_A (wl cy ad γ S) sz, gC S, 0, 0) γ o ho
  have h2 := h2 ⟨B.exec, B.bytes, hml, findClass_of_methodNamed B.named, atoms_spec (ws := ws) B.pre, hK, fun q hq => Or.inr (by rw [← hsz]; exact hq), B.notSynchronized, hN, fun o2 => ⟨rfl, rfl, Nat.le_refl _, Nat.le_refl _⟩, B.returns⟩
  rw [lg_entry_eq]
  have hl := lv_entry av (n := maxL) hlen
  rw [hlv] at hl
  have hD2 : va_D (va_A (wl cy ad γ S) sz) (wl cy ad γ S) := hD.self
  have h3 := h2 s.heap [] _ hl hP hD2 va_S.rf (Nat.le_refl _)
  exact W.cs (by omega) (by omega) h3
