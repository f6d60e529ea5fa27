theorem isB1 : isB 1 = true := by decide
theorem isB0 : isB 0 = true := by decide
theorem ar_c (p : Int32) (n : Nat) (hn : n ≤ 1000) : ((∀ S, fX11_within S p 0 (nI n - 1) = some 0) ∧ ∀ S, fX12_in S p.toInt64 0 (nI n - 1).toInt64 = some 0) ∨ ∃ k : Nat, p = nI k ∧ k < n ∧ (∀ S, fX11_within S (nI k) 0 (nI n - 1) = some 1) ∧ ∀ S, fX12_in S (nI k).toInt64 0 (nI n - 1).toInt64 = some 1 := by
  have hs : (nI n - 1).toInt = (n : Int) - 1 := pk_sub_toInt (a := n) (b := 1) (by omega) (by decide)
  rcases ar_w p 0 (nI n - 1) 0 (nI n - 1).toInt64 (by decide) (i64_toInt _) with h | ⟨h, h1, h2⟩
  · exact Or.inl h
  · right
    rw [hs, show (0 : Int32).toInt = 0 by decide] at h
    obtain ⟨k, hk, rfl, hk2⟩ := rng_nI (p := p) (n := n - 1) (by omega) (by omega)
    refine ⟨k, rfl, ?_, h1, h2⟩
    rw [t_nI hk2] at h
    omega
theorem a_tongue (p : Int32) : ((∀ S, fX11_isTongue S p = some 0) ∧ ∀ S, fX12_isTongue S p = some 0) ∨ ∃ k : Nat, p = nI k ∧ k < 2 ∧ (∀ S, fX11_isTongue S (nI k) = some 1) ∧ ∀ S, fX12_isTongue S (nI k) = some 1 := by
  rcases ar_n p 0 1 (by decide) 0 1 0 1 (by decide) (by decide) (by decide) (by decide) with ⟨c, m⟩ | ⟨k, rfl, -, hk, c, m⟩
  · exact Or.inl ⟨fun S => by simp only [fX11_isTongue, c, cal_s, isB0, gd_t], fun S => by simp only [fX12_isTongue, m, cal_s, isB0, gd_t]⟩
  · exact Or.inr ⟨k, rfl, by omega, fun S => by simp only [fX11_isTongue, c, cal_s, isB1, gd_t], fun S => by simp only [fX12_isTongue, m, cal_s, isB1, gd_t]⟩
theorem a_year (p : Int32) : ((∀ S, fX11_isYear S p = some 0) ∧ ∀ S, fX12_isYear S p = some 0) ∨ ∃ k : Nat, p = nI k ∧ k ≤ 200 ∧ (∀ S, fX11_isYear S (nI k) = some 1) ∧ ∀ S, fX12_isYear S (nI k) = some 1 := by
  rcases ar_n p 0 200 (by decide) 0 200 0 200 (by decide) (by decide) (by decide) (by decide) with ⟨c, m⟩ | ⟨k, rfl, -, hk, c, m⟩
  · exact Or.inl ⟨fun S => by simp only [fX11_isYear, c, cal_s, isB0, gd_t], fun S => by simp only [fX12_isYear, m, cal_s, isB0, gd_t]⟩
  · exact Or.inr ⟨k, rfl, by omega, fun S => by simp only [fX11_isYear, c, cal_s, isB1, gd_t], fun S => by simp only [fX12_isYear, m, cal_s, isB1, gd_t]⟩
theorem a_kin (p : Int32) : ((∀ S, fX11_isKin S p = some 0) ∧ ∀ S, fX12_isKin S p = some 0) ∨ ∃ k : Nat, p = nI k ∧ k < 10 ∧ (∀ S, fX11_isKin S (nI k) = some 1) ∧ ∀ S, fX12_isKin S (nI k) = some 1 := by
  rcases ar_n p 0 9 (by decide) 0 9 0 9 (by decide) (by decide) (by decide) (by decide) with ⟨c, m⟩ | ⟨k, rfl, -, hk, c, m⟩
  · exact Or.inl ⟨fun S => by simp only [fX11_isKin, c, cal_s, isB0, gd_t], fun S => by simp only [fX12_isKin, m, cal_s, isB0, gd_t]⟩
  · exact Or.inr ⟨k, rfl, by omega, fun S => by simp only [fX11_isKin, c, cal_s, isB1, gd_t], fun S => by simp only [fX12_isKin, m, cal_s, isB1, gd_t]⟩
theorem a_word (p : Int32) : ((∀ S, fX11_isWord S p = some 0) ∧ ∀ S, fX12_in S p.toInt64 0 7 = some 0) ∨ ∃ k : Nat, p = nI k ∧ k < 8 ∧ (∀ S, fX11_isWord S (nI k) = some 1) ∧ ∀ S, fX12_in S (nI k).toInt64 0 7 = some 1 := by
  rcases ar_n p 0 7 (by decide) 0 7 0 7 (by decide) (by decide) (by decide) (by decide) with ⟨c, m⟩ | ⟨k, rfl, -, hk, c, m⟩
  · exact Or.inl ⟨fun S => by simp only [fX11_isWord, c, cal_s, isB0, gd_t], m⟩
  · exact Or.inr ⟨k, rfl, by omega, fun S => by simp only [fX11_isWord, c, cal_s, isB1, gd_t], m⟩
theorem a_verb (p : Int32) : ((∀ S, fX11_isVerb S p = some 0) ∧ ∀ S, fX12_in S p.toInt64 0 5 = some 0) ∨ ∃ k : Nat, p = nI k ∧ k < 6 ∧ (∀ S, fX11_isVerb S (nI k) = some 1) ∧ ∀ S, fX12_in S (nI k).toInt64 0 5 = some 1 := by
  rcases ar_n p 0 5 (by decide) 0 5 0 5 (by decide) (by decide) (by decide) (by decide) with ⟨c, m⟩ | ⟨k, rfl, -, hk, c, m⟩
  · exact Or.inl ⟨fun S => by simp only [fX11_isVerb, c, cal_s, isB0, gd_t], m⟩
  · exact Or.inr ⟨k, rfl, by omega, fun S => by simp only [fX11_isVerb, c, cal_s, isB1, gd_t], m⟩
theorem a_thing (p : Int32) : ((∀ S, fX11_isThing S p = some 0) ∧ ∀ S, fX12_in S p.toInt64 0 5 = some 0) ∨ ∃ k : Nat, p = nI k ∧ k < 6 ∧ (∀ S, fX11_isThing S (nI k) = some 1) ∧ ∀ S, fX12_in S (nI k).toInt64 0 5 = some 1 := by
  rcases ar_n p 0 5 (by decide) 0 5 0 5 (by decide) (by decide) (by decide) (by decide) with ⟨c, m⟩ | ⟨k, rfl, -, hk, c, m⟩
  · exact Or.inl ⟨fun S => by simp only [fX11_isThing, c, cal_s, isB0, gd_t], m⟩
  · exact Or.inr ⟨k, rfl, by omega, fun S => by simp only [fX11_isThing, c, cal_s, isB1, gd_t], m⟩
theorem a_act (p : Int32) : ((∀ S, fX11_isAct S p = some 0) ∧ ∀ S, fX12_in S p.toInt64 0 35 = some 0) ∨ ∃ k : Nat, p = nI k ∧ k < 36 ∧ (∀ S, fX11_isAct S (nI k) = some 1) ∧ ∀ S, fX12_in S (nI k).toInt64 0 35 = some 1 := by
  rcases ar_n p 0 35 (by decide) 0 35 0 35 (by decide) (by decide) (by decide) (by decide) with ⟨c, m⟩ | ⟨k, rfl, -, hk, c, m⟩
  · exact Or.inl ⟨fun S => by simp only [fX11_isAct, c, cal_s, isB0, gd_t], m⟩
  · exact Or.inr ⟨k, rfl, by omega, fun S => by simp only [fX11_isAct, c, cal_s, isB1, gd_t], m⟩
theorem a_facts (p : Int32) : ((∀ S, fX11_isFactSet S p = some 0) ∧ ∀ S, fX12_in S p.toInt64 0 255 = some 0) ∨ ∃ k : Nat, p = nI k ∧ k < 256 ∧ (∀ S, fX11_isFactSet S (nI k) = some 1) ∧ ∀ S, fX12_in S (nI k).toInt64 0 255 = some 1 := by
  rcases ar_n p 0 255 (by decide) 0 255 0 255 (by decide) (by decide) (by decide) (by decide) with ⟨c, m⟩ | ⟨k, rfl, -, hk, c, m⟩
  · exact Or.inl ⟨fun S => by simp only [fX11_isFactSet, c, cal_s, isB0, gd_t], m⟩
  · exact Or.inr ⟨k, rfl, by omega, fun S => by simp only [fX11_isFactSet, c, cal_s, isB1, gd_t], m⟩
theorem a_person (p : Int32) (n : Nat) (hn : n ≤ 30) : ((∀ S, gI S 6 0 6 = nI n → fX7_has S p = some 0) ∧ ∀ S, gI S 11 0 6 = nI n → fX12_isPerson S p = some 0) ∨ ∃ k : Nat, p = nI k ∧ k < n ∧ (∀ S, gI S 6 0 6 = nI n → fX7_has S (nI k) = some 1) ∧ ∀ S, gI S 11 0 6 = nI n → fX12_isPerson S (nI k) = some 1 := by
  rcases ar_c p n (by omega) with ⟨c, m⟩ | ⟨k, rfl, hk, c, m⟩
  · exact Or.inl ⟨fun S h => by simp only [fX7_has, h, c, cal_s, isB0, gd_t], fun S h => by simp only [fX12_isPerson, h, m, cal_s, isB0, gd_t]⟩
  · exact Or.inr ⟨k, rfl, hk, fun S h => by simp only [fX7_has, h, c, cal_s, isB1, gd_t], fun S h => by simp only [fX12_isPerson, h, m, cal_s, isB1, gd_t]⟩
theorem a_block (p : Int32) (n : Nat) (hn : n ≤ 12) : ((∀ S, gI S 4 0 3 = nI n → fX4_has S p = some 0) ∧ ∀ S, gI S 11 0 13 = nI n → fX12_isBlock S p = some 0) ∨ ∃ k : Nat, p = nI k ∧ k < n ∧ (∀ S, gI S 4 0 3 = nI n → fX4_has S (nI k) = some 1) ∧ ∀ S, gI S 11 0 13 = nI n → fX12_isBlock S (nI k) = some 1 := by
  rcases ar_c p n (by omega) with ⟨c, m⟩ | ⟨k, rfl, hk, c, m⟩
  · exact Or.inl ⟨fun S h => by simp only [fX4_has, h, c, cal_s, isB0, gd_t], fun S h => by simp only [fX12_isBlock, h, m, cal_s, isB0, gd_t]⟩
  · exact Or.inr ⟨k, rfl, hk, fun S h => by simp only [fX4_has, h, c, cal_s, isB1, gd_t], fun S h => by simp only [fX12_isBlock, h, m, cal_s, isB1, gd_t]⟩
theorem gd_p {ρ : Type} {p : Prop} [Decidable p] (h : p) (k : Option ρ) : gd (decide p) k = k := by simp [gd, h]
theorem tongue_of (S : St) {t : Nat} (h : t < 2) : fX11_tongueOf S (nI t) = some t := by
  unfold fX11_tongueOf
  rcases (show t = 0 ∨ t = 1 by omega) with rfl | rfl <;> rfl
theorem sub1_toInt {k : Nat} (h : k < 1000000000) : (nI k - 1).toInt = (k : Int) - 1 := pk_sub_toInt (a := k) (b := 1) (by omega) (by decide)
theorem ar_s (p : Int32) (hi : Nat) (hh : hi < 1000000) (b : Int32) (b' : Int64) (eb : b.toInt = hi) (hb : b'.toInt = b.toInt) : ((∀ S, fX11_within S p (-1) b = some 0) ∧ ∀ S, fX12_in S p.toInt64 (-1) b' = some 0) ∨ ∃ k : Nat, p = nI k - 1 ∧ k ≤ hi + 1 ∧ (∀ S, fX11_within S (nI k - 1) (-1) b = some 1) ∧ ∀ S, fX12_in S (nI k - 1).toInt64 (-1) b' = some 1 := by
  rcases ar_w p (-1) b (-1) b' (by decide) hb with h | ⟨h, h1, h2⟩
  · exact Or.inl h
  · right
    rw [show (-1 : Int32).toInt = -1 by decide, eb] at h
    have e : p = nI (p.toInt + 1).toNat - 1 := by
      apply (t_eq _ _).mpr
      rw [sub1_toInt (by omega)]
      omega
    refine ⟨(p.toInt + 1).toNat, e, by omega, ?_, ?_⟩
    · rw [← e]; exact h1
    · rw [← e]; exact h2
