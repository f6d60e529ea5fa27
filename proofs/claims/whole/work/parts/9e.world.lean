/-! THE WORLD of both new objects -/
def gk : List Nat := [5, 4, 6, 99, 3, 7, 2, 8, 0, 0, 99, 9, 5, 5, 5, 5, 5, 5, 4, 6, 3, 3, 3, 3, 3, 3, 3, 3, 3, 3, 3, 3, 3, 7, 2, 2, 2, 2, 2, 2, 2, 2, 2, 2, 8, 8, 0, 0, 0, 0, 0, 0, 0, 9, 9, 9, 9, 9, 9, 9, 9, 9, 9, 9, 9, 9, 9, 9, 9, 9, 9, 9, 9, 9, 9, 9, 9, 9, 9, 9, 9, 4, 4, 4, 4]
def comb (h : Nat) (aT0 aT1 aP aL aE aC aH aY aS aM : Nat → Nat → Nat) (c n : Nat) : Nat :=
  if c = 10 then h else if c = 3 then (if n < 34 then aT0 3 n else if n = 68 then aT0 3 68 else aT1 3 n) else
  match gk.getD c 99 with
  | 0 => if n = 0 then aT0 c 0 else aT1 c n
  | 2 => aP c n
  | 3 => aL c n
  | 4 => aE c n
  | 5 => aC c n
  | 6 => aH c n
  | 7 => aY c n
  | 8 => aS c n
  | _ => aM c n
def pT (t : Nat) (pl9 : List (Nat × Nat)) : List (Nat × Nat) := [(9, t), (48, t), (49, t), (50, t)] ++ pl9
def rT (t : Nat) : List (Nat × Nat) := (52, t) :: (List.range 34).map (fun i => (3, 34 * t + i))
def plA : List (Nat × Nat) := ((10, 0) :: pT 0 plI9_0) ++ ((51, 0) :: (rT 0 ++ (pT 1 plI9_1 ++ ((51, 1) :: (rT 1 ++ (plI7 ++ (plI4 ++ (plI1 ++ (plI0 ++ (plI2 ++ (plI6 ++ (plI8 ++ plI12)))))))))))) 
section MADE
variable {cy : Nat → ClassId} {h : Nat} {aT0 aT1 aP aL aE aC aH aY aS aM : Nat → Nat → Nat}
set_option maxRecDepth 100000 in
theorem mkP0 : (pT 0 plI9_0).map (cel cy aT0) = (pT 0 plI9_0).map (cel cy (comb h aT0 aT1 aP aL aE aC aH aY aS aM)) := rfl
set_option maxRecDepth 100000 in
theorem mkP1 : (pT 1 plI9_1).map (cel cy aT1) = (pT 1 plI9_1).map (cel cy (comb h aT0 aT1 aP aL aE aC aH aY aS aM)) := rfl
set_option maxRecDepth 100000 in
theorem mkR0 : (rT 0).map (cel cy aT0) = (rT 0).map (cel cy (comb h aT0 aT1 aP aL aE aC aH aY aS aM)) := rfl
set_option maxRecDepth 100000 in
theorem mkR1 : (rT 1).map (cel cy aT1) = (rT 1).map (cel cy (comb h aT0 aT1 aP aL aE aC aH aY aS aM)) := rfl
set_option maxRecDepth 100000 in
theorem mk7 : plI7.map (cel cy aP) = plI7.map (cel cy (comb h aT0 aT1 aP aL aE aC aH aY aS aM)) := rfl
set_option maxRecDepth 100000 in
theorem mk4 : plI4.map (cel cy aL) = plI4.map (cel cy (comb h aT0 aT1 aP aL aE aC aH aY aS aM)) := rfl
set_option maxRecDepth 100000 in
theorem mk0 : plI0.map (cel cy aC) = plI0.map (cel cy (comb h aT0 aT1 aP aL aE aC aH aY aS aM)) := rfl
set_option maxRecDepth 100000 in
theorem mk8 : plI8.map (cel cy aS) = plI8.map (cel cy (comb h aT0 aT1 aP aL aE aC aH aY aS aM)) := rfl
set_option maxRecDepth 100000 in
theorem mk12 : plI12.map (cel cy aM) = plI12.map (cel cy (comb h aT0 aT1 aP aL aE aC aH aY aS aM)) := rfl
set_option maxRecDepth 100000 in
theorem mk1 (f1 : aE 6 0 = aP 6 0) : plI1.map (cel cy aE) = plI1.map (cel cy (comb h aT0 aT1 aP aL aE aC aH aY aS aM)) := by
  have e : cel cy aE (1, 0) = cel cy (comb h aT0 aT1 aP aL aE aC aH aY aS aM) (1, 0) := by
    show ((aE 1 0, .inr (1, [.ref (aE 6 0), .ref (aE 18 0), .long 0, .ref (aE 81 0), .ref (aE 82 0), .ref (aE 83 0), .ref (aE 84 0), .int 0])) : Nat × va_E) = _
    rw [f1]; rfl
  show cel cy aE (1, 0) :: _ = cel cy (comb h aT0 aT1 aP aL aE aC aH aY aS aM) (1, 0) :: _
  rw [e]; rfl
set_option maxRecDepth 100000 in
theorem mk2 (f1 : aH 0 0 = aC 0 0) (f2 : aH 6 0 = aP 6 0) : plI2.map (cel cy aH) = plI2.map (cel cy (comb h aT0 aT1 aP aL aE aC aH aY aS aM)) := by
  have e : cel cy aH (2, 0) = cel cy (comb h aT0 aT1 aP aL aE aC aH aY aS aM) (2, 0) := by
    show ((aH 2 0, .inr (2, [.ref (aH 0 0), .ref (aH 19 0), .int 0, .ref (aH 6 0), .int 0])) : Nat × va_E) = _
    rw [f1, f2]; rfl
  show cel cy aH (2, 0) :: _ = cel cy (comb h aT0 aT1 aP aL aE aC aH aY aS aM) (2, 0) :: _
  rw [e]; rfl
set_option maxRecDepth 100000 in
theorem mk6 (f1 : aY 0 0 = aC 0 0) : plI6.map (cel cy aY) = plI6.map (cel cy (comb h aT0 aT1 aP aL aE aC aH aY aS aM)) := by
  have e : cel cy aY (5, 0) = cel cy (comb h aT0 aT1 aP aL aE aC aH aY aS aM) (5, 0) := by
    show ((aY 5 0, .inr (5, [.ref (aY 0 0), .ref (aY 33 0), .int 0, .int 1])) : Nat × va_E) = _
    rw [f1]; rfl
  show cel cy aY (5, 0) :: _ = cel cy (comb h aT0 aT1 aP aL aE aC aH aY aS aM) (5, 0) :: _
  rw [e]; rfl
/-- the world as it was made, in its order, by one table of addresses -/
theorem made {D : va_G} {A : Nat → Prop} {H : Heap} {w : va_W} (hw : PoT cy h w) (hP : va_P D clX (w ++ plI12.map (cel cy aM)) H) (hD : va_D A (w ++ plI12.map (cel cy aM))) : ∃ a : Nat → Nat → Nat, a 10 0 = h ∧ a 11 0 = aM 11 0 ∧ va_P D clX (plA.map (cel cy a)) H ∧ va_D A (plA.map (cel cy a)) := by
  obtain ⟨aT0, aT1, aP, aL, aE, aC, aH, aY, aS, ⟨f1, f2, f3, f4⟩, rfl⟩ := hw
  refine ⟨comb h aT0 aT1 aP aL aE aC aH aY aS aM, rfl, rfl, ?_⟩
  have e0 : (((h, .inr (10, [.ref (aT0 9 0), .ref (aT1 9 1), .ref (aP 6 0), .ref (aL 4 0), .ref (aE 1 0), .ref (aC 0 0), .ref (aH 2 0), .ref (aY 5 0), .ref (aS 7 0)])) :: ((((((((plI10_0.map (cel cy aT0) ++ plI10_1.map (cel cy aT1)) ++ plI7.map (cel cy aP)) ++ plI4.map (cel cy aL)) ++ plI1.map (cel cy aE)) ++ plI0.map (cel cy aC)) ++ plI2.map (cel cy aH)) ++ plI6.map (cel cy aY)) ++ plI8.map (cel cy aS)) : va_W) ++ plI12.map (cel cy aM)) = ((h, .inr (10, [.ref (aT0 9 0), .ref (aT1 9 1), .ref (aP 6 0), .ref (aL 4 0), .ref (aE 1 0), .ref (aC 0 0), .ref (aH 2 0), .ref (aY 5 0), .ref (aS 7 0)])) :: (pT 0 plI9_0).map (cel cy aT0)) ++ (cel cy aT0 (51, 0) :: ((rT 0).map (cel cy aT0) ++ ((pT 1 plI9_1).map (cel cy aT1) ++ (cel cy aT1 (51, 1) :: ((rT 1).map (cel cy aT1) ++ (plI7.map (cel cy aP) ++ (plI4.map (cel cy aL) ++ (plI1.map (cel cy aE) ++ (plI0.map (cel cy aC) ++ (plI2.map (cel cy aH) ++ (plI6.map (cel cy aY) ++ (plI8.map (cel cy aS) ++ plI12.map (cel cy aM))))))))))))) := by
    have t0 : plI10_0.map (cel cy aT0) = (pT 0 plI9_0).map (cel cy aT0) ++ (cel cy aT0 (51, 0) :: (rT 0).map (cel cy aT0)) := by
      rw [show plI10_0 = pT 0 plI9_0 ++ ((51, 0) :: rT 0) by decide +kernel, List.map_append, List.map_cons]
    have t1 : plI10_1.map (cel cy aT1) = (pT 1 plI9_1).map (cel cy aT1) ++ (cel cy aT1 (51, 1) :: (rT 1).map (cel cy aT1)) := by
      rw [show plI10_1 = pT 1 plI9_1 ++ ((51, 1) :: rT 1) by decide +kernel, List.map_append, List.map_cons]
    rw [t0, t1]
    simp only [List.cons_append, List.append_assoc]
  rw [e0] at hP hD
  have g0 : ∀ j, j < 34 → (fun i => some (aT0 3 (34 * 0 + i))) j = (fun i => some (comb h aT0 aT1 aP aL aE aC aH aY aS aM 3 (34 * 0 + i))) j := fun j hj => by
    show some (aT0 3 (34 * 0 + j)) = some (if 34 * 0 + j < 34 then aT0 3 (34 * 0 + j) else if 34 * 0 + j = 68 then aT0 3 68 else aT1 3 (34 * 0 + j))
    rw [if_pos (by omega)]
  have g1 : ∀ j, j < 34 → (fun i => some (aT1 3 (34 * 1 + i))) j = (fun i => some (comb h aT0 aT1 aP aL aE aC aH aY aS aM 3 (34 * 1 + i))) j := fun j hj => by
    show some (aT1 3 (34 * 1 + j)) = some (if 34 * 1 + j < 34 then aT0 3 (34 * 1 + j) else if 34 * 1 + j = 68 then aT0 3 68 else aT1 3 (34 * 1 + j))
    rw [if_neg (by omega), if_neg (by omega)]
  have hP1 := P_ext (a := aT0 51 0) (cA := cy 4) (n := 34) (f := fun i => some (aT0 3 (34 * 0 + i))) (g := fun i => some (comb h aT0 aT1 aP aL aE aC aH aY aS aM 3 (34 * 0 + i))) g0 hP
  have hD1 := D_ext (e2 := .inl (cy 4, (34, .inr (.inr (.inr (.inr (fun i => some (comb h aT0 aT1 aP aL aE aC aH aY aS aM 3 (34 * 0 + i)))))))) ) hD
  have e1 : ∀ (z : Nat × va_E) (r1 r2 : va_W), (((h, .inr (10, [.ref (aT0 9 0), .ref (aT1 9 1), .ref (aP 6 0), .ref (aL 4 0), .ref (aE 1 0), .ref (aC 0 0), .ref (aH 2 0), .ref (aY 5 0), .ref (aS 7 0)])) :: (pT 0 plI9_0).map (cel cy aT0) : va_W) ++ (z :: ((rT 0).map (cel cy aT0) ++ ((pT 1 plI9_1).map (cel cy aT1) ++ r1)))) = (((h, .inr (10, [.ref (aT0 9 0), .ref (aT1 9 1), .ref (aP 6 0), .ref (aL 4 0), .ref (aE 1 0), .ref (aC 0 0), .ref (aH 2 0), .ref (aY 5 0), .ref (aS 7 0)])) :: (pT 0 plI9_0).map (cel cy aT0) : va_W) ++ (z :: ((rT 0).map (cel cy aT0) ++ (pT 1 plI9_1).map (cel cy aT1)))) ++ r1 := fun z r1 r2 => by
    simp only [List.cons_append, List.append_assoc]
  rw [e1 _ _ []] at hP1 hD1
  have hP2 := P_ext (a := aT1 51 1) (cA := cy 4) (n := 34) (f := fun i => some (aT1 3 (34 * 1 + i))) (g := fun i => some (comb h aT0 aT1 aP aL aE aC aH aY aS aM 3 (34 * 1 + i))) g1 hP1
  have hD2 := D_ext (e2 := .inl (cy 4, (34, .inr (.inr (.inr (.inr (fun i => some (comb h aT0 aT1 aP aL aE aC aH aY aS aM 3 (34 * 1 + i)))))))) ) hD1
  rw [← e1 _ _ []] at hP2 hD2
  have fin : plA.map (cel cy (comb h aT0 aT1 aP aL aE aC aH aY aS aM)) = ((h, .inr (10, [.ref (aT0 9 0), .ref (aT1 9 1), .ref (aP 6 0), .ref (aL 4 0), .ref (aE 1 0), .ref (aC 0 0), .ref (aH 2 0), .ref (aY 5 0), .ref (aS 7 0)])) :: (pT 0 plI9_0).map (cel cy aT0)) ++ ((aT0 51 0, .inl (cy 4, (34, .inr (.inr (.inr (.inr (fun i => some (comb h aT0 aT1 aP aL aE aC aH aY aS aM 3 (34 * 0 + i))))))))) :: ((rT 0).map (cel cy aT0) ++ ((pT 1 plI9_1).map (cel cy aT1) ++ ((aT1 51 1, .inl (cy 4, (34, .inr (.inr (.inr (.inr (fun i => some (comb h aT0 aT1 aP aL aE aC aH aY aS aM 3 (34 * 1 + i))))))))) :: ((rT 1).map (cel cy aT1) ++ (plI7.map (cel cy aP) ++ (plI4.map (cel cy aL) ++ (plI1.map (cel cy aE) ++ (plI0.map (cel cy aC) ++ (plI2.map (cel cy aH) ++ (plI6.map (cel cy aY) ++ (plI8.map (cel cy aS) ++ plI12.map (cel cy aM))))))))))))) := by
    rw [mkP0 (h := h) (aT1 := aT1) (aP := aP) (aL := aL) (aE := aE) (aC := aC) (aH := aH) (aY := aY) (aS := aS) (aM := aM), mkR0 (h := h) (aT1 := aT1) (aP := aP) (aL := aL) (aE := aE) (aC := aC) (aH := aH) (aY := aY) (aS := aS) (aM := aM), mkP1 (h := h) (aT0 := aT0) (aP := aP) (aL := aL) (aE := aE) (aC := aC) (aH := aH) (aY := aY) (aS := aS) (aM := aM), mkR1 (h := h) (aT0 := aT0) (aP := aP) (aL := aL) (aE := aE) (aC := aC) (aH := aH) (aY := aY) (aS := aS) (aM := aM), mk7 (h := h) (aT0 := aT0) (aT1 := aT1) (aL := aL) (aE := aE) (aC := aC) (aH := aH) (aY := aY) (aS := aS) (aM := aM), mk4 (h := h) (aT0 := aT0) (aT1 := aT1) (aP := aP) (aE := aE) (aC := aC) (aH := aH) (aY := aY) (aS := aS) (aM := aM), mk1 (h := h) (aT0 := aT0) (aT1 := aT1) (aL := aL) (aC := aC) (aH := aH) (aY := aY) (aS := aS) (aM := aM) f1, mk0 (h := h) (aT0 := aT0) (aT1 := aT1) (aP := aP) (aL := aL) (aE := aE) (aH := aH) (aY := aY) (aS := aS) (aM := aM), mk2 (h := h) (aT0 := aT0) (aT1 := aT1) (aL := aL) (aE := aE) (aY := aY) (aS := aS) (aM := aM) f2 f3, mk6 (h := h) (aT0 := aT0) (aT1 := aT1) (aP := aP) (aL := aL) (aE := aE) (aH := aH) (aS := aS) (aM := aM) f4, mk8 (h := h) (aT0 := aT0) (aT1 := aT1) (aP := aP) (aL := aL) (aE := aE) (aC := aC) (aH := aH) (aY := aY) (aM := aM), mk12 (h := h) (aT0 := aT0) (aT1 := aT1) (aP := aP) (aL := aL) (aE := aE) (aC := aC) (aH := aH) (aY := aY) (aS := aS)]
    unfold plA
    simp only [List.map_append, List.map_cons]
    rfl
  rw [fin]
  exact ⟨hP2, hD2⟩
end MADE
def gx (k : Nat) : Nat := plA.idxOf (prs.getD k (0, 0))
set_option maxRecDepth 100000 in
theorem gx_all : (List.range 163).all (fun k => plA[gx k]? == prs[k]?) = true := by decide +kernel
set_option maxRecDepth 100000 in
theorem prs_len : prs.length = 163 := by decide +kernel
theorem gx_ok {k : Nat} (hk : k < prs.length) : plA[gx k]? = prs[k]? := by
  have h := List.all_eq_true.mp gx_all k (List.mem_range.mpr (by rw [← prs_len]; exact hk))
  exact eq_of_beq h
theorem wl_cel {cy : Nat → ClassId} {a : Nat → Nat → Nat} : wl cy a (fun j => a (82 + j) 0) S0 = prs.map (cel cy a) := by
  unfold wl
  refine List.map_congr_left (fun q hq => ?_)
  obtain ⟨c, n⟩ := q
  have h1 := prs_k hq
  unfold cel adr
  by_cases h : kG ≤ c
  · have h82 : 82 ≤ c := h
    have hn := prs_one hq (by omega)
    subst hn
    rw [if_pos h]
    show (a (82 + (c - 82)) 0, _) = _
    rw [show 82 + (c - 82) = c by omega]
  · rw [if_neg h]
theorem made_wl {D : va_G} {A : Nat → Prop} {H : Heap} {cy : Nat → ClassId} {a : Nat → Nat → Nat} (hP : va_P D clX (plA.map (cel cy a)) H) (hD : va_D A (plA.map (cel cy a))) : va_P D clX (wl cy a (fun j => a (82 + j) 0) S0) H ∧ va_D A (wl cy a (fun j => a (82 + j) 0) S0) := by
  rw [wl_cel]
  have hg : ∀ (k : Nat) (q : Nat × va_E), (prs.map (cel cy a))[k]? = some q → (plA.map (cel cy a))[gx k]? = some q := fun k q hk => by
    have hl : k < prs.length := by have := (List.getElem?_eq_some_iff.mp hk).1; simpa using this
    rw [List.getElem?_map] at hk ⊢
    rw [gx_ok hl]; exact hk
  refine ⟨hP.by gx hg, va_D_by hD gx hg (fun i j hi hj h => ?_)⟩
  have hi : i < prs.length := by simpa using hi
  have hj : j < prs.length := by simpa using hj
  have e := gx_ok hi
  rw [h, gx_ok hj] at e
  exact (List.getElem?_inj hi prs_nd).mp e.symm
