/-- what the pure side owes -/
theorem pure_all : ∃ (Inv : Nat → xS → Prop) (σ1 σ2 : xS), fX0_startAnew 0 64 4 kS0 = some ((), σ1) ∧ fX6_starts 64 4 (kZ σ1) = some ((), σ2) ∧ Inv 0 σ2 ∧ (∀ n σ, Inv n σ → Inv (n + 1) σ) ∧ xOK Inv := sorry
