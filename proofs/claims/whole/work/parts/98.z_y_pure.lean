/-- what the pure side owes -/
theorem pure_all : ∃ (Inv : Nat → xS → Prop) (σ1 σ2 : xS), fX0_startAnew 0 64 4 kS0 = some ((), σ1) ∧ fX6_starts 64 4 (kZ σ1) = some ((), σ2) ∧ Inv 0 σ2 ∧ (∀ n σ, Inv n σ → Inv (n + 1) σ) ∧ xOK Inv := by
  obtain ⟨σ1, σ2, h1, h2, h3⟩ := start0
  exact ⟨Inv, σ1, σ2, h1, h2, h3, Inv_mono, xp0, xp1, xp2, xp3, xp4, xp5, xp6, xp7, xp8, xp9, xp10, xp11, xp12, xp13, xp14, xp15, xp16, xp17, xp18, xp19, xp20, xp21, xp22, xp23, xp24, xp25, xp26, xp27, xp28, xp29, xp30, xp31, xp32, xp33, xp34, xp35, xp36, xp37, xp38, xp39, xp40, xp41, xp42, xp43, xp44, xp45, xp46, xp47, xp48, xp49, xp50, xp51, xp52, xp53⟩
