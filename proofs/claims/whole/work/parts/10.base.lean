/-! STATE: the numbers of all objects of class and reference, by kind and number; WORLD: the cells; JUDGEMENT: JJ -/
abbrev St : Type := (Nat → Nat → Nat → Int32) × (Nat → Nat → Nat → Int64) × (Nat → Nat → Nat → Int32) × (Nat → Nat → Nat → Int64) × Nat
def gI (S : St) (c n k : Nat) : Int32 := S.1 c n k
def gJ (S : St) (c n k : Nat) : Int64 := S.2.1 c n k
def gA (S : St) (c n i : Nat) : Int32 := S.2.2.1 c n i
def gB (S : St) (c n i : Nat) : Int64 := S.2.2.2.1 c n i
def gC (S : St) : Nat := S.2.2.2.2
def up3 {α : Type} (f : Nat → Nat → Nat → α) (c n k : Nat) (v : α) : Nat → Nat → Nat → α := fun c' n' k' => if c' = c ∧ n' = n ∧ k' = k then v else f c' n' k'
def pI (S : St) (c n k : Nat) (v : Int32) : St := (up3 S.1 c n k v, S.2)
def pJ (S : St) (c n k : Nat) (v : Int64) : St := (S.1, up3 S.2.1 c n k v, S.2.2)
def pA (S : St) (c n k : Nat) (v : Int32) : St := (S.1, S.2.1, up3 S.2.2.1 c n k v, S.2.2.2)
def pB (S : St) (c n k : Nat) (v : Int64) : St := (S.1, S.2.1, S.2.2.1, up3 S.2.2.2.1 c n k v, S.2.2.2.2)
/-- combinators of the functional texts -/
def gd {ρ : Type} (b : Bool) (k : Option ρ) : Option ρ := if b then k else none
theorem gd_some {ρ : Type} {b : Bool} {k : Option ρ} {o : ρ} (h : gd b k = some o) : b = true ∧ k = some o := by
  cases b with
  | true => exact ⟨rfl, h⟩
  | false => cases h
def cal {β ρ : Type} (f : Option β) (k : β → Option ρ) : Option ρ := match f with
  | none => none
  | some b => k b
def bnd {β ρ : Type} (v : β) (k : β → Option ρ) : Option ρ := k v
def ix (i : Int32) (n : Nat) : Bool := !(decide (i < 0)) && decide (i.toNatClampNeg < n)
def isB (v : Int32) : Bool := v == 0 || v == 1
theorem ix_in {i : Int32} {n : Nat} (h : ix i n = true) : vp_in i n := by
  simp [ix] at h
  intro q
  rcases q with q | q
  · exact absurd q (Int32.not_lt.mpr h.1)
  · omega
theorem isB_nar {v : Int32} (h : isB v = true) : narrow .boolean (.int v) = .int v := by
  simp [isB] at h
  rcases h with rfl | rfl <;> rfl
/-- the fields of the object kinds: (0 int, 1 long, 2 a cell of a kind with number a + b n, 3 a grown array), kind, a, b -/
def kTab : List (List (Nat × Nat × Nat × Nat)) := [[(2, 12, 0, 1), (2, 13, 0, 1), (2, 14, 0, 1), (2, 15, 0, 1), (2, 16, 0, 1), (2, 17, 0, 1), (0, 0, 0, 0)], [(2, 6, 0, 0), (2, 18, 0, 1), (1, 0, 0, 0), (2, 81, 0, 1), (3, 0, 0, 0), (3, 1, 0, 0), (3, 2, 0, 0), (0, 0, 0, 0)], [(2, 0, 0, 0), (2, 19, 0, 1), (0, 0, 0, 0), (2, 6, 0, 0), (0, 0, 0, 0)], [(0, 0, 0, 0), (0, 0, 0, 0), (0, 0, 0, 0), (0, 0, 0, 0), (0, 0, 0, 0), (0, 0, 0, 0)], [(2, 20, 0, 1), (2, 21, 0, 1), (2, 22, 0, 1), (0, 0, 0, 0), (2, 23, 0, 1), (2, 24, 0, 1), (2, 25, 0, 1), (2, 26, 0, 1), (0, 0, 0, 0), (2, 27, 0, 1), (2, 28, 0, 1), (2, 29, 0, 1), (0, 0, 0, 0), (2, 30, 0, 1), (2, 31, 0, 1), (2, 32, 0, 1), (0, 0, 0, 0)], [(2, 0, 0, 0), (2, 33, 0, 1), (0, 0, 0, 0), (0, 0, 0, 0)], [(2, 34, 0, 1), (2, 35, 0, 1), (2, 36, 0, 1), (2, 37, 0, 1), (2, 38, 0, 1), (2, 39, 0, 1), (0, 0, 0, 0), (2, 40, 0, 1), (2, 41, 0, 1), (2, 42, 0, 1), (2, 43, 0, 1), (0, 0, 0, 0)], [(2, 44, 0, 1), (2, 45, 0, 1), (0, 0, 0, 0)], [(2, 46, 0, 1), (0, 0, 0, 0), (2, 47, 0, 1), (2, 3, 68, 1)], [(2, 48, 0, 1), (2, 49, 0, 1), (2, 50, 0, 1), (0, 0, 0, 0), (2, 8, 0, 1), (2, 51, 0, 1), (0, 0, 0, 0), (2, 52, 0, 1)], [(2, 9, 0, 0), (2, 9, 1, 0), (2, 6, 0, 0), (2, 4, 0, 0), (2, 1, 0, 0), (2, 0, 0, 0), (2, 2, 0, 0), (2, 5, 0, 0), (2, 7, 0, 0)], [(2, 53, 0, 1), (2, 54, 0, 1), (2, 55, 0, 1), (2, 56, 0, 1), (2, 57, 0, 1), (2, 58, 0, 1), (0, 0, 0, 0), (2, 59, 0, 1), (2, 60, 0, 1), (2, 61, 0, 1), (2, 62, 0, 1), (0, 0, 0, 0), (2, 63, 0, 1), (0, 0, 0, 0), (2, 64, 0, 1), (0, 0, 0, 0), (2, 65, 0, 1), (0, 0, 0, 0), (2, 66, 0, 1), (0, 0, 0, 0), (2, 67, 0, 1), (2, 68, 0, 1), (2, 69, 0, 1), (0, 0, 0, 0), (2, 70, 0, 1), (0, 0, 0, 0), (2, 71, 0, 1), (2, 72, 0, 1), (0, 0, 0, 0), (2, 73, 0, 1), (2, 74, 0, 1), (2, 75, 0, 1), (2, 76, 0, 1), (1, 0, 0, 0), (0, 0, 0, 0), (0, 0, 0, 0), (2, 77, 0, 1), (2, 78, 0, 1), (2, 79, 0, 1), (2, 80, 0, 1)]]
/-- the array kinds from 12 on: element type (0 int 1 byte 2 boolean 3 long 4 Item), length, how many -/
def aTab : List (Nat × Nat × Nat) := [(0, 9, 1), (0, 9, 1), (0, 9, 1), (0, 9, 1), (0, 9, 1), (0, 9, 1), (3, 30, 1), (0, 512, 1), (0, 12, 1), (0, 12, 1), (0, 12, 1), (0, 60, 1), (2, 60, 1), (0, 60, 1), (0, 60, 1), (0, 20, 1), (0, 20, 1), (0, 20, 1), (0, 12, 1), (0, 12, 1), (0, 12, 1), (0, 512, 1), (0, 30, 1), (0, 30, 1), (0, 30, 1), (0, 30, 1), (0, 30, 1), (0, 30, 1), (0, 20, 1), (0, 20, 1), (0, 20, 1), (2, 20, 1), (0, 8, 1), (0, 8, 1), (1, 240, 2), (0, 5, 2), (0, 20, 2), (0, 20, 2), (0, 20, 2), (4, 34, 2), (0, 8, 2), (0, 2, 1), (0, 480, 1), (0, 3, 1), (0, 720, 1), (0, 2, 1), (0, 120, 1), (0, 30, 1), (0, 60, 1), (0, 30, 1), (0, 30, 1), (0, 80, 1), (0, 12, 1), (0, 240, 1), (0, 80, 1), (0, 36, 1), (0, 12, 1), (0, 12, 1), (0, 54, 1), (0, 8, 1), (0, 8, 1), (0, 5, 1), (0, 16, 1), (0, 30, 1), (3, 30, 1), (0, 900, 1), (3, 900, 1), (0, 512, 1), (0, 100, 1), (0, 30, 1), (0, 32, 1), (3, 32, 1), (3, 32, 1)]
def oCnt : List Nat := [1, 1, 1, 70, 1, 1, 1, 1, 2, 2, 1, 1]
abbrev clX : List vw_C := [(RX0, TX0, 7), (RX1, TX1, 8), (RX2, TX2, 5), (RX3, TX3, 6), (RX4, TX4, 17), (RX6, TX6, 4), (RX7, TX7, 12), (RX8, TX8, 3), (RX9, TX9, 4), (RX10, TX10, 8), (RX11, TX11, 9), (RX12, TX12, 40)]
def kEnt (c k : Nat) : Nat × Nat × Nat × Nat := (kTab.getD c []).getD k (9, 0, 0, 0)
def aEnt (c : Nat) : Nat × Nat × Nat := aTab.getD (c - 12) (9, 0, 0)
def kCnt (c : Nat) : Nat := if c < 12 then oCnt.getD c 0 else (aEnt c).2.2
def prs : List (Nat × Nat) := (List.range 85).flatMap (fun c => (List.range (kCnt c)).map (fun n => (c, n)))
theorem prs_mem {c n : Nat} (h1 : c < 85) (h2 : n < kCnt c) : (c, n) ∈ prs := by
  simp only [prs, List.mem_flatMap, List.mem_map, List.mem_range]
  exact ⟨c, h1, n, h2, rfl⟩
set_option maxRecDepth 100000 in
theorem prs_nd : prs.Nodup := by decide +kernel
def nwM : List (String × Nat × MethodName × String) := [("TwoTongues$Tongue", 23, ⟨"TwoTongues$Text", "<init>", "()V"⟩, "TwoTongues"), ("TwoTongues$Text", 21, ⟨"TwoTongues$Item", "<init>", "()V"⟩, "TwoTongues"), ("TwoTongues$Tongue", 37, ⟨"TwoTongues$Item", "<init>", "()V"⟩, "TwoTongues"), ("TwoTongues", 21, ⟨"TwoTongues$People", "<init>", "()V"⟩, "TwoTongues"), ("TwoTongues", 28, ⟨"TwoTongues$Land", "<init>", "()V"⟩, "TwoTongues"), ("TwoTongues", 44, ⟨"TwoTongues$Claims", "<init>", "()V"⟩, "TwoTongues"), ("TwoTongues", 69, ⟨"TwoTongues$Settlements", "<init>", "()V"⟩, "TwoTongues"), ("TwoTongues$Text", 53, ⟨"TwoTongues", "within", "(III)Z"⟩, "TwoTongues"), ("TwoTongues$Item", 34, ⟨"TwoTongues", "isWord", "(I)Z"⟩, "TwoTongues"), ("TwoTongues$Item", 38, ⟨"TwoTongues", "isThing", "(I)Z"⟩, "TwoTongues"), ("TwoTongues$Item", 41, ⟨"TwoTongues", "isYear", "(I)Z"⟩, "TwoTongues"), ("TwoTongues$Tongue", 56, ⟨"TwoTongues", "within", "(III)Z"⟩, "TwoTongues"), ("TwoTongues$Item", 44, ⟨"TwoTongues", "within", "(III)Z"⟩, "TwoTongues"), ("TwoTongues$Tongue", 81, ⟨"TwoTongues", "hasBit", "(II)Z"⟩, "TwoTongues"), ("TwoTongues$People", 47, ⟨"TwoTongues", "within", "(III)Z"⟩, "TwoTongues"), ("TwoTongues$People", 60, ⟨"TwoTongues", "hasBit", "(II)Z"⟩, "TwoTongues"), ("TwoTongues$Land", 56, ⟨"TwoTongues", "within", "(III)Z"⟩, "TwoTongues"), ("TwoTongues$Land", 77, ⟨"TwoTongues", "hasBit", "(II)Z"⟩, "TwoTongues"), ("TwoTongues$Order", 43, ⟨"TwoTongues", "hasBit", "(II)Z"⟩, "TwoTongues")]
def nwD : List MethodName := [⟨"TwoTongues$Order", "arrange", "(I)I"⟩, ⟨"TwoTongues$Order", "lengthOf", "(I)I"⟩, ⟨"TwoTongues$Order", "priceOf", "(II)I"⟩, ⟨"TwoTongues$Order", "claimAt", "(I)I"⟩]
def NWs (U : State) : Prop := (∀ q ∈ nwM, va_Nw (.methodLinkNest q.1 q.2.1 q.2.2.1 q.2.2.2) U) ∧ ∀ x ∈ nwD, va_Nw (.declares x) U
theorem NWs.warm {s U : State} (hW : s.WarmedH U.vm) (h : NWs s) : NWs U := ⟨fun q hq => va_Nw.warmM hW (h.1 q hq), fun x hx => va_Nw.warmD hW (h.2 x hx)⟩
def kG : Nat := 82
def ln (S : St) (c : Nat) : Nat := if kG ≤ c then gC S else (aEnt c).2.1
def adr (ad : Nat → Nat → Nat) (γ : Nat → Nat) (c n : Nat) : Nat := if kG ≤ c then γ (c - kG) else ad c n
def fv (ad : Nat → Nat → Nat) (γ : Nat → Nat) (S : St) (c n k : Nat) : Value := match (kEnt c k).1 with
  | 0 => .int (gI S c n k)
  | 1 => .long (gJ S c n k)
  | 2 => .ref (ad (kEnt c k).2.1 ((kEnt c k).2.2.1 + (kEnt c k).2.2.2 * n))
  | _ => .ref (γ (kEnt c k).2.1)
def co (cy : Nat → ClassId) (ad : Nat → Nat → Nat) (γ : Nat → Nat) (S : St) (c n : Nat) : va_E := if c < 12 then .inr (c, (List.range (kTab.getD c []).length).map (fv ad γ S c n)) else match (aEnt c).1 with
  | 0 => .inl (cy 0, ln S c, .inl (gA S c n))
  | 1 => .inl (cy 1, ln S c, .inl (gA S c n))
  | 2 => .inl (cy 2, ln S c, .inl (gA S c n))
  | 3 => .inl (cy 3, ln S c, .inr (.inl (gB S c n)))
  | _ => .inl (cy 4, ln S c, .inr (.inr (.inr (.inr (fun i => some (ad 3 (34 * n + i)))))))
def wl (cy : Nat → ClassId) (ad : Nat → Nat → Nat) (γ : Nat → Nat) (S : St) : va_W := prs.map (fun q => (adr ad γ q.1 q.2, co cy ad γ S q.1 q.2))
def tyX (cy : Nat → ClassId) : List (ClassId × FieldType) := [(cy 0, .int), (cy 1, .byte), (cy 2, .boolean), (cy 3, .long), (cy 4, .object "TwoTongues$Item")]
theorem wl_get (cy : Nat → ClassId) (ad : Nat → Nat → Nat) (γ : Nat → Nat) (S : St) {c n : Nat} (h : (c, n) ∈ prs) : ∃ q0 : Nat, prs[q0]? = some (c, n) ∧ (wl cy ad γ S)[q0]? = some (adr ad γ c n, co cy ad γ S c n) := by
  obtain ⟨q0, hq⟩ := List.mem_iff_getElem?.mp h
  exact ⟨q0, hq, by simp [wl, hq]⟩
theorem wl_set {cy : Nat → ClassId} {ad : Nat → Nat → Nat} {γ : Nat → Nat} {S S' : St} {c n q0 : Nat} (hq : prs[q0]? = some (c, n)) (h : ∀ c' n', (c', n') ≠ (c, n) → co cy ad γ S' c' n' = co cy ad γ S c' n') : (wl cy ad γ S).set q0 (adr ad γ c n, co cy ad γ S' c n) = wl cy ad γ S' := by
  apply List.ext_getElem?
  intro i
  by_cases hi : i = q0
  · subst hi
    have hlt : i < prs.length := (List.getElem?_eq_some_iff.mp hq).1
    have hlt2 : i < (wl cy ad γ S).length := by simpa [wl] using hlt
    rw [List.getElem?_set_self hlt2]
    simp [wl, hq]
  · rw [List.getElem?_set_ne (Ne.symm hi)]
    simp only [wl, List.getElem?_map]
    cases h' : prs[i]? with
    | none => rfl
    | some q =>
      obtain ⟨c', n'⟩ := q
      have hne : (c', n') ≠ (c, n) := fun e => hi ((List.getElem?_inj (List.getElem?_eq_some_iff.mp h').1 prs_nd).mp (by rw [h', hq, e]))
      simp [h c' n' hne]
theorem fs_set {f g : Nat → Value} {N k : Nat} {v : Value} (hk : k < N) (h1 : g k = v) (h2 : ∀ i, i ≠ k → g i = f i) : ((List.range N).map f).set k v = (List.range N).map g := by
  apply List.ext_getElem?
  intro i
  by_cases hi : i = k
  · subst hi
    rw [List.getElem?_set_self (by simpa using hk)]
    simp [hk, h1]
  · rw [List.getElem?_set_ne (Ne.symm hi)]
    simp only [List.getElem?_map]
    by_cases h : i < N
    · simp [h, h2 i hi]
    · simp [h]
theorem co_obj (cy : Nat → ClassId) (ad : Nat → Nat → Nat) (γ : Nat → Nat) (S : St) {c n : Nat} (h : c < 12) : co cy ad γ S c n = .inr (c, (List.range (kTab.getD c []).length).map (fv ad γ S c n)) := by simp [co, h]
theorem up3_self {α : Type} (f : Nat → Nat → Nat → α) (c n k : Nat) (v : α) : up3 f c n k v c n k = v := by simp [up3]
theorem up3_cn {α : Type} {f : Nat → Nat → Nat → α} {c n k : Nat} {v : α} {c' n' : Nat} (h : (c', n') ≠ (c, n)) (k' : Nat) : up3 f c n k v c' n' k' = f c' n' k' := by
  have : ¬ (c' = c ∧ n' = n ∧ k' = k) := fun q => h (by rw [q.1, q.2.1])
  simp [up3, this]
theorem up3_k {α : Type} {f : Nat → Nat → Nat → α} {c n k : Nat} {v : α} {c' n' k' : Nat} (h : k' ≠ k) : up3 f c n k v c' n' k' = f c' n' k' := by
  have : ¬ (c' = c ∧ n' = n ∧ k' = k) := fun q => h q.2.2
  simp [up3, this]
theorem pI_oth {cy : Nat → ClassId} {ad : Nat → Nat → Nat} {γ : Nat → Nat} {S : St} {c n k : Nat} {v : Int32} (c' n' : Nat) (h : (c', n') ≠ (c, n)) : co cy ad γ (pI S c n k v) c' n' = co cy ad γ S c' n' := by
  have h1 : ∀ k', gI (pI S c n k v) c' n' k' = gI S c' n' k' := fun k' => up3_cn h k'
  have h2 : fv ad γ (pI S c n k v) c' n' = fv ad γ S c' n' := by funext j; unfold fv; rw [h1]; rfl
  unfold co; rw [h2]; rfl
theorem pJ_oth {cy : Nat → ClassId} {ad : Nat → Nat → Nat} {γ : Nat → Nat} {S : St} {c n k : Nat} {v : Int64} (c' n' : Nat) (h : (c', n') ≠ (c, n)) : co cy ad γ (pJ S c n k v) c' n' = co cy ad γ S c' n' := by
  have h1 : ∀ k', gJ (pJ S c n k v) c' n' k' = gJ S c' n' k' := fun k' => up3_cn h k'
  have h2 : fv ad γ (pJ S c n k v) c' n' = fv ad γ S c' n' := by funext j; unfold fv; rw [h1]; rfl
  unfold co; rw [h2]; rfl
theorem pA_oth {cy : Nat → ClassId} {ad : Nat → Nat → Nat} {γ : Nat → Nat} {S : St} {c n k : Nat} {v : Int32} (c' n' : Nat) (h : (c', n') ≠ (c, n)) : co cy ad γ (pA S c n k v) c' n' = co cy ad γ S c' n' := by
  have h1 : gA (pA S c n k v) c' n' = gA S c' n' := by funext k'; exact up3_cn h k'
  have h2 : fv ad γ (pA S c n k v) c' n' = fv ad γ S c' n' := rfl
  unfold co; rw [h1, h2]; rfl
theorem pB_oth {cy : Nat → ClassId} {ad : Nat → Nat → Nat} {γ : Nat → Nat} {S : St} {c n k : Nat} {v : Int64} (c' n' : Nat) (h : (c', n') ≠ (c, n)) : co cy ad γ (pB S c n k v) c' n' = co cy ad γ S c' n' := by
  have h1 : gB (pB S c n k v) c' n' = gB S c' n' := by funext k'; exact up3_cn h k'
  have h2 : fv ad γ (pB S c n k v) c' n' = fv ad γ S c' n' := rfl
  unfold co; rw [h1, h2]; rfl
/-- the context of a walk: the machine's and the tables' things, the writable addresses, the capacity at the start, the cells and slots at the start -/
abbrev Ctx : Type := Program × Launch × Env × State × MethodId × Array Value × List Frame × Method × Code × (Nat → ClassId) × (Nat → Nat → Nat) × (Nat → ClassId) × (Nat → Prop) × Nat × Nat × Nat
def J (X : Ctx) (ad : Nat → Nat → Nat) (γ : Nat → Nat) (R : Room) (Q : State → Prop) (nL : Nat) (S : St) (pc : Nat) (lv : List (Nat × Value)) (st : List Value) : Prop := match X with
  | (p, l, e, s, m, args, below, meth, c, dC, dI, cy, A, c0, bc, bs) => ∀ (H : Heap) (locs : List Loc) (ls : Array Slot), lv_has ls nL lv → va_P (dC, dI) clX (wl cy ad γ S) H → va_D A (wl cy ad γ S) → va_S A s.heap H locs → c0 ≤ gC S → W p l e R s m args below meth c H locs (bc + 6 * (gC S - c0)) (bs + 6 * (gC S - c0)) Q (F0 m pc ls st)
def Ok {ρ : Type} (X : Ctx) (RQ : ρ → Room × (State → Prop)) (fc : ρ → Nat) (fr lo : Nat) (cc : ByteArray) (nL : Nat) (own : String) (Ts : List Cond) (ret : Option FieldType) : Prop := match X with
  | (p, _, _, s, m, args, _, meth, c, dC, dI, cy, A, c0, bc, bs) => p.tables.exec = Jvm.exec ∧ c.code = cc ∧ c.maxLocals = nL ∧ s.vm.findClass own = some m.cls ∧ (∀ w ∈ Ts, w.before args s = true) ∧ va_K (dC, dI) clX (tyX cy) s ∧ (∀ q, s.heap.size ≤ q → A q) ∧ meth.locks = false ∧ NWs s ∧ (∀ o : ρ, (RQ o).1.frames = fr ∧ (RQ o).1.locals = lo ∧ bc + 6 * (fc o - c0) ≤ (RQ o).1.cells ∧ bs + 6 * (fc o - c0) ≤ (RQ o).1.slots) ∧ meth.sig.returnType = ret
def JJ {ρ : Type} (X : Ctx) (ad : Nat → Nat → Nat) (γ : Nat → Nat) (RQ : ρ → Room × (State → Prop)) (fc : ρ → Nat) (fr lo : Nat) (cc : ByteArray) (nL : Nat) (own : String) (Ts : List Cond) (ret : Option FieldType) (code : Option ρ) (S : St) (pc : Nat) (lv : List (Nat × Value)) (st : List Value) : Prop := ∀ o : ρ, code = some o → gC S ≤ fc o ∧ (Ok X RQ fc fr lo cc nL own Ts ret → J X ad γ (RQ o).1 (RQ o).2 nL S pc lv st)
/-- a contract's start and end -/
def Bp (dC : Nat → ClassId) (dI : Nat → Nat → Nat) (cy : Nat → ClassId) (ad : Nat → Nat → Nat) (γ : Nat → Nat) (S : St) (sz : Nat) (U : State) : Prop := U.heap.size = sz ∧ va_P (dC, dI) clX (wl cy ad γ S) U.heap ∧ va_K (dC, dI) clX (tyX cy) U ∧ va_D (fun _ => True) (wl cy ad γ S) ∧ NWs U
def Bq (dC : Nat → ClassId) (dI : Nat → Nat → Nat) (cy : Nat → ClassId) (ad : Nat → Nat → Nat) (S : St) (A : Nat → Prop) (t : State) : Prop := ∃ γ : Nat → Nat, va_P (dC, dI) clX (wl cy ad γ S) t.heap ∧ va_K (dC, dI) clX (tyX cy) t ∧ va_D A (wl cy ad γ S)
def Qp (v : Option Value) (B : State → Prop) (A : Nat → Prop) : Array Value → State → Outcome → State → Prop := fun _ st oc t => (oc = .returned v ∧ B t) ∧ va_F A st t
def CT (l : Launch) (dC : Nat → ClassId) (dI : Nat → Nat → Nat) (cy : Nat → ClassId) (ad : Nat → Nat → Nat) (y : MethodName) (ws : List Cond) (fr lo : Nat) (av : List Value) (S : St) (v : Option Value) (S' : St) : Prop := (∀ _ : Ctx, gC S ≤ gC S') ∧ ∀ (sz : Nat) (γ : Nat → Nat), Met l y ws { frames := fr, cells := 0 + 6 * (gC S' - gC S), slots := 0 + 6 * (gC S' - gC S), locals := lo } (va_Pc av (Bp dC dI cy ad γ S sz)) (Qp v (Bq dC dI cy ad S' (va_A (wl cy ad γ S) sz)) (va_A (wl cy ad γ S) sz)) (0 + 6 * (gC S' - gC S)) (0 + 6 * (gC S' - gC S)) (va_A (wl cy ad γ S) sz)
def CTX (X : Ctx) (ad : Nat → Nat → Nat) (y : MethodName) (ws : List Cond) (fr lo : Nat) (av : List Value) (S : St) (v : Option Value) (S' : St) : Prop := match X with
  | (_, l, _, _, _, _, _, _, _, dC, dI, cy, _, _, _, _) => CT l dC dI cy ad y ws fr lo av S v S'
def RQm {ρ : Type} (X : Ctx) (ad : Nat → Nat → Nat) (fr lo : Nat) (out : ρ → Option Value × St) (o : ρ) : Room × (State → Prop) := match X with
  | (_, _, _, s, _, args, below, _, _, dC, dI, cy, A, c0, bc, bs) => ({ frames := fr, cells := bc + 6 * (gC (out o).2 - c0), slots := bs + 6 * (gC (out o).2 - c0), locals := lo }, MQ below (Qp (out o).1 (Bq dC dI cy ad (out o).2 A) A) args s (bc + 6 * (gC (out o).2 - c0)) (bs + 6 * (gC (out o).2 - c0)) A)
def fcm {ρ : Type} (out : ρ → Option Value × St) (o : ρ) : Nat := gC (out o).2
