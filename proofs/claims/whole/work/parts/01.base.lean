/-! ===== pure words: the store, and what the decompiled functions are made of ===== -/
abbrev xS : Type := Nat → Nat → Nat → Nat → Nat → Int32
def x_row (σ : xS) (d K p r : Nat) (f : Nat → Int32) : xS := va_up σ d (va_up (σ d) K (va_up (σ d K) p (va_up (σ d K p) r f)))
def x_set (σ : xS) (d K p r k : Nat) (v : Int32) : xS := x_row σ d K p r (va_up (σ d K p r) k v)
theorem up_s {α : Type} (f : Nat → α) (k : Nat) (v : α) : va_up f k v k = v := by simp [va_up]
theorem up_n {α : Type} (f : Nat → α) {j k : Nat} (v : α) (h : j ≠ k) : va_up f k v j = f j := by simp [va_up, h]
theorem x_row_same (σ : xS) (d K p r : Nat) (f : Nat → Int32) : x_row σ d K p r f d K p r = f := by rw [x_row, up_s, up_s, up_s, up_s]
theorem x_row_ne (σ : xS) (d K p r : Nat) (f : Nat → Int32) (i : Nat × Nat × Nat × Nat) (h : i ≠ (d, K, p, r)) : x_row σ d K p r f i.1 i.2.1 i.2.2.1 i.2.2.2 = σ i.1 i.2.1 i.2.2.1 i.2.2.2 := by
  obtain ⟨a, b, x, y⟩ := i
  show x_row σ d K p r f a b x y = σ a b x y
  rw [x_row]
  by_cases h1 : a = d
  · subst h1
    rw [up_s]
    by_cases h2 : b = K
    · subst h2
      rw [up_s]
      by_cases h3 : x = p
      · subst h3
        rw [up_s]
        by_cases h4 : y = r
        · subst h4; exact absurd rfl h
        · rw [up_n _ _ h4]
      · rw [up_n _ _ h3]
    · rw [up_n _ _ h2]
  · rw [up_n _ _ h1]
/-- 0 or 1 -/
def x_z (x : Int32) : Bool := decide (x = 0 ∨ x = 1)
theorem x_z_or {x : Int32} (h : x_z x = true) : x = 0 ∨ x = 1 := of_decide_eq_true h
/-- an index in its array -/
def x_in (i : Int32) (n : Nat) : Bool := decide (¬ (i < 0 ∨ n ≤ i.toNatClampNeg))
def i_max (x y : Int32) : Int32 := if x < y then y else x
def i_min (x y : Int32) : Int32 := if y < x then y else x
-- the decompiled functions' own words
def x_let {α β : Type} (a : α) (k : α → β) : β := k a
theorem x_let_e {α β : Type} {a : α} {k : α → β} {z : β} (h : x_let a k = z) : ∃ t, t = a ∧ k t = z := ⟨a, rfl, h⟩
def x_b {α β : Type} (o : Option (α × xS)) (k : α → xS → Option β) : Option β := match o with
  | none => none
  | some q => k q.1 q.2
theorem x_b_e {α β : Type} {o : Option (α × xS)} {k : α → xS → Option β} {z : β} (h : x_b o k = some z) : ∃ (r : α) (s : xS), o = some (r, s) ∧ k r s = some z := by
  cases o with
  | none => cases h
  | some q => exact ⟨q.1, q.2, rfl, h⟩
def x_g {β : Type} (b : Bool) (k : Option β) : Option β := if b = true then k else none
theorem x_g_e {β : Type} {b : Bool} {k : Option β} {z : β} (h : x_g b k = some z) : b = true ∧ k = some z := by
  cases b with
  | false => cases h
  | true => exact ⟨rfl, h⟩
theorem x_t {α : Type} {c : Prop} [Decidable c] {a b z : α} (hc : c) (h : (if c then a else b) = z) : a = z := by rw [if_pos hc] at h; exact h
theorem x_f {α : Type} {c : Prop} [Decidable c] {a b z : α} (hc : ¬ c) (h : (if c then a else b) = z) : b = z := by rw [if_neg hc] at h; exact h
def x_FU : Nat := 200000
theorem x_nz_e {α β : Type} [DecidableEq α] {y o : α} {k : Option β} {z : β} (h : (if y = o then none else k) = some z) : ¬ y = o ∧ k = some z := by
  by_cases hc : y = o
  · rw [if_pos hc] at h; cases h
  · rw [if_neg hc] at h; exact ⟨hc, h⟩
def ok2 (t : Nat × Nat) : Bool := decide (t.1 < 4 ∧ t.2 < 6)
def ok3 (t : Nat × Nat × Nat) : Bool := decide (t.1 < 4 ∧ t.2.1 < 6 ∧ t.2.2 < 3)
