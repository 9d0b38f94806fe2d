theorem xp49 : xP49 Inv := sorry
theorem xp50 : xP50 Inv := sorry
