theorem kX1_makeRoom {ad : Nat → Nat → Nat} (S : St) : ∀ b, fX1_makeRoom S = some b → ∀ l dC dI cy, CT l dC dI cy ad yX1_makeRoom wsX1_makeRoom 3 90 [.ref (ad 1 0)] S none b := by
  sorry
