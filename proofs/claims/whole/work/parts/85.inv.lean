/-! ===== what holds between the class's part of the store and the reference's ===== -/
abbrev xD : Type := Nat → Nat → Nat → Nat → Int32
abbrev xV : Type := Nat → Int32
/-- a queue's fields: the class's number, the reference's -/
def qm (k : Nat) : Option Nat := match k with
  | 1 => some 0 | 2 => some 1 | 3 => some 2 | 4 => some 3 | 5 => some 4 | 6 => some 5 | 10 => some 6 | 11 => some 7 | 12 => some 8 | 7 => some 9 | 8 => some 10 | 9 => some 11 | 15 => some 12 | _ => none
/-- a port's -/
def pm (k : Nat) : Option Nat := match k with
  | 2 => some 0 | 3 => some 1 | 4 => some 2 | 7 => some 4 | 6 => some 5 | 8 => some 6 | 9 => some 7 | 5 => some 8 | 11 => some 9 | 10 => some 10 | _ => none
abbrev iq (q f : Nat) : Nat := 160 + 16 * q + f
abbrev ip (p f : Nat) : Nat := 16 + 24 * p + f
abbrev ie (q i : Nat) : Nat := 448 + 128 * q + i
abbrev ik (k f : Nat) : Nat := 2752 + 28 * k + f
def cfQ (τ : xD) (v : xV) : Prop := ∀ p r k f, p < 6 → r < 3 → qm k = some f → τ 16 p r k = v (iq (3 * p + r) f)
def cfP (τ : xD) (v : xV) : Prop := ∀ p k f, p < 6 → pm k = some f → τ 13 p 0 k = v (ip p f)
def cfL (τ : xD) (v : xV) : Prop := ∀ p c, p < 6 → c < 10 → τ 15 p 0 c = v (ip p (11 + c))
def cfD (τ : xD) (v : xV) : Prop := τ 1 0 0 0 = v 0 ∧ τ 0 0 0 2 = v 1 ∧ τ 0 0 0 3 = v 2 ∧ τ 0 0 0 4 = v 3 ∧ τ 0 0 0 5 = v 4 ∧ τ 0 0 0 9 = v 5
def cfR (τ : xD) (v : xV) : Prop := v 5 = 1 → ∀ k, k < 4 → τ 11 0 0 (3 - k) = v (6 + k)
def rg (x lo hi : Int32) : Prop := lo ≤ x ∧ x ≤ hi
/-- C cells, P ports -/
def wfG (v : xV) (C P : Nat) : Prop := v 0 = nI C ∧ 16 ≤ C ∧ C ≤ 128 ∧ v 1 = nI P ∧ 1 ≤ P ∧ P ≤ 6 ∧ x_z (v 2) = true ∧ x_z (v 5) = true
def wfP (v : xV) : Prop := ∀ p, p < 6 → rg (v (ip p 0)) 0 64 ∧ rg (v (ip p 1)) 0 64 ∧ rg (v (ip p 2)) 0 32 ∧ rg (v (ip p 4)) 0 11 ∧ rg (v (ip p 5)) 0 16 ∧ rg (v (ip p 6)) 0 2 ∧ x_z (v (ip p 7)) = true ∧ x_z (v (ip p 8)) = true
def wfQ (v : xV) : Prop := ∀ q, q < 18 → rg (v (iq q 0)) 0 64 ∧ rg (v (iq q 1)) 0 32 ∧ rg (v (iq q 2)) 0 8 ∧ rg (v (iq q 3)) 0 32 ∧ rg (v (iq q 4)) 1 16 ∧ rg (v (iq q 5)) 0 27 ∧ rg (v (iq q 6)) 0 128 ∧ rg (v (iq q 7)) 0 128 ∧ rg (v (iq q 8)) 0 128 ∧ x_z (v (iq q 9)) = true ∧ x_z (v (iq q 10)) = true
/-- a queue's deficit: small but while its turn goes on; none without packets -/
def wfT (v : xV) : Prop := ∀ p r, p < 6 → r < 3 → (v (iq (3 * p + r) 12) = 0 → v (iq (3 * p + r) 5) = 0) ∧ (¬ (v (ip p 6) = nI r ∧ v (ip p 7) = 0) → v (iq (3 * p + r) 5) ≤ 11)
/-- a port's sum of a field over its queues -/
abbrev s3 (v : xV) (p f : Nat) : Int32 := v (iq (3 * p) f) + v (iq (3 * p + 1) f) + v (iq (3 * p + 2) f)
def sm32 (f : Nat → Int32) : Nat → Int32
  | 0 => 0
  | n + 1 => sm32 f n + f n
def mPool (v : xV) (P : Nat) : Int32 := v 0 - sm32 (fun p => v (ip p 0) + v (ip p 2) + v (ip p 1)) P
def mFree (v : xV) (P : Nat) : Int32 := mPool v P - sm32 (fun p => s3 v p 7) P
def wfS (v : xV) (P : Nat) : Prop := (∀ p, p < 6 → s3 v p 6 ≤ v (ip p 0) + v (ip p 2) ∧ s3 v p 8 ≤ v (ip p 1)) ∧ 0 ≤ mFree v P ∧ mFree v P ≤ 128
/-- ports that are not there hold nothing -/
def wfN (v : xV) (P : Nat) : Prop := ∀ p, P ≤ p → p < 6 → v (ip p 0) = 0 ∧ v (ip p 1) = 0 ∧ v (ip p 2) = 0 ∧ ∀ r, r < 3 → v (iq (3 * p + r) 6) = 0 ∧ v (iq (3 * p + r) 7) = 0 ∧ v (iq (3 * p + r) 8) = 0 ∧ v (iq (3 * p + r) 12) = 0
-- packets, as the reference has them
def Ln (v : xV) (q : Nat) : Nat := (v (iq q 12)).toNatClampNeg
def Sl (v : xV) (q i : Nat) : Nat := (v (ie q i)).toNatClampNeg
def Sz (v : xV) (k : Nat) : Nat := (v (ik k 1)).toNatClampNeg
def Pn (v : xV) (k : Nat) : Nat := (v (ik k 2)).toNatClampNeg
def Fs (v : xV) (k f : Nat) : Nat := (v (ik k (4 + f))).toNatClampNeg
def Fl (v : xV) (k f : Nat) : Nat := (v (ik k (16 + f))).toNatClampNeg
def Us (v : xV) (k : Nat) : Prop := v (ik k 3) = 1
def nsum (f : Nat → Nat) : Nat → Nat
  | 0 => 0
  | n + 1 => nsum f n + f n
def mwL (v : xV) : Prop := ∀ q, q < 18 → v (iq q 12) = nI (Ln v q) ∧ Ln v q ≤ 128
def mwE (v : xV) : Prop := ∀ q i, q < 18 → i < Ln v q → v (ie q i) = nI (Sl v q i) ∧ Sl v q i < 128 ∧ Us v (Sl v q i)
def mwI (v : xV) : Prop := ∀ q i q' i', q < 18 → i < Ln v q → q' < 18 → i' < Ln v q' → Sl v q i = Sl v q' i' → q = q' ∧ i = i'
def mwU (v : xV) : Prop := ∀ k, k < 128 → v (ik k 3) = 0 ∨ (Us v k ∧ ∃ q i, q < 18 ∧ i < Ln v q ∧ Sl v q i = k)
def mwK (v : xV) (C : Nat) : Prop := ∀ k, k < 128 → Us v k → v (ik k 1) = nI (Sz v k) ∧ 1 ≤ Sz v k ∧ Sz v k ≤ 12 ∧ v (ik k 2) = nI (Pn v k) ∧ 1 ≤ Pn v k ∧ Pn v k ≤ 12 ∧ (∀ f, f < Pn v k → v (ik k (4 + f)) = nI (Fs v k f) ∧ v (ik k (16 + f)) = nI (Fl v k f) ∧ 1 ≤ Fl v k f ∧ Fs v k f + Fl v k f ≤ C) ∧ nsum (Fl v k) (Pn v k) = Sz v k ∧ 0 ≤ v (ik k 0) ∧ v (ik k 0) < v 4
def mwJ (v : xV) : Prop := ∀ k k', k < 128 → Us v k → k' < 128 → Us v k' → v (ik k 0) = v (ik k' 0) → k = k'
def mwM (v : xV) (C : Nat) : Prop := ∀ c, c < C → v (6336 + c) = 0 ∨ ∃ k, k < 128 ∧ Us v k ∧ v (6336 + c) = nI (k + 1) ∧ ∃ f, f < Pn v k ∧ Fs v k f ≤ c ∧ c < Fs v k f + Fl v k f
def mwF (v : xV) : Prop := ∀ k f c, k < 128 → Us v k → f < Pn v k → Fs v k f ≤ c → c < Fs v k f + Fl v k f → v (6336 + c) = nI (k + 1)
def mwD (v : xV) : Prop := ∀ k f f' c, k < 128 → Us v k → f < Pn v k → f' < Pn v k → Fs v k f ≤ c → c < Fs v k f + Fl v k f → Fs v k f' ≤ c → c < Fs v k f' + Fl v k f' → f = f'
def mwA (v : xV) : Prop := ∀ q, q < 18 → v (iq q 6) + v (iq q 7) + v (iq q 8) = nI (nsum (fun i => Sz v (Sl v q i)) (Ln v q)) ∧ nsum (fun i => Sz v (Sl v q i)) (Ln v q) ≤ 128
def MW (v : xV) (C : Nat) : Prop := mwL v ∧ mwE v ∧ mwI v ∧ mwU v ∧ mwK v C ∧ mwJ v ∧ mwM v C ∧ mwF v ∧ mwD v ∧ mwA v
-- packets, as the class has them
/-- the cell by which the class knows the packet at place i of queue q; -1 beyond its ends -/
def cellAt (v : xV) (q i : Nat) : Int32 := if i < Ln v q then nI (Fs v (Sl v q i) 0) else -1
def rxQ (τ : xD) (v : xV) : Prop := ∀ p r, p < 6 → r < 3 → τ 16 p r 13 = cellAt v (3 * p + r) 0 ∧ τ 16 p r 14 = (if Ln v (3 * p + r) = 0 then -1 else cellAt v (3 * p + r) (Ln v (3 * p + r) - 1)) ∧ ∀ i, i < Ln v (3 * p + r) → τ 9 0 0 (Fs v (Sl v (3 * p + r) i) 0) = cellAt v (3 * p + r) (i + 1) ∧ τ 8 0 0 (Fs v (Sl v (3 * p + r) i) 0) = (if i = 0 then -1 else cellAt v (3 * p + r) (i - 1))
def rxK (τ : xD) (v : xV) : Prop := ∀ k, k < 128 → Us v k → τ 5 0 0 (Fs v k 0) = v (ik k 0) ∧ τ 6 0 0 (Fs v k 0) = v (ik k 1) ∧ τ 7 0 0 (Fs v k 0) = v (ik k 2) ∧ ∀ f, f < Pn v k → τ 3 0 0 (Fs v k f) = v (ik k (16 + f)) ∧ τ 4 0 0 (Fs v k f) = (if f + 1 < Pn v k then nI (Fs v k (f + 1)) else -1)
def rxN (τ : xD) (v : xV) : Prop := ∀ c, c < 128 → τ 5 0 0 c = -1 ∨ ∃ k, k < 128 ∧ Us v k ∧ Fs v k 0 = c
def rxM (τ : xD) (v : xV) (C : Nat) : Prop := (∀ c, c < C → τ 2 0 0 c = (if v (6336 + c) = 0 then 0 else 1)) ∧ ∀ c, c < 128 → x_z (τ 2 0 0 c) = true
def RX (τ : xD) (v : xV) (C : Nat) : Prop := rxQ τ v ∧ rxK τ v ∧ rxN τ v ∧ rxM τ v C
-- grants
def gr (τ : xD) (v : xV) (P : Nat) : Prop := (∀ p, p < 6 → 0 ≤ v (ip p 3) ∧ v (ip p 3) ≤ v 10 ∧ (v (ip p 3) = 0 ↔ v (ip p 2) = 0)) ∧
  ((τ 0 0 0 6 = -1 ∧ τ 0 0 0 7 = -1 ∧ ∀ p, p < 6 → v (ip p 3) = 0) ∨
   (∃ a, a < P ∧ τ 0 0 0 6 = nI a ∧ τ 0 0 0 7 = -1 ∧ 0 < v (ip a 3) ∧ ∀ p, p < 6 → p ≠ a → v (ip p 3) = 0) ∨
   (∃ a b, a < P ∧ b < P ∧ a ≠ b ∧ τ 0 0 0 6 = nI a ∧ τ 0 0 0 7 = nI b ∧ 0 < v (ip a 3) ∧ v (ip a 3) < v (ip b 3) ∧ ∀ p, p < 6 → p ≠ a → p ≠ b → v (ip p 3) = 0))
/-- a device and a row of the reference, after at most n calls -/
def RR (τ : xD) (v : xV) (n : Nat) : Prop := ∃ C P, wfG v C P ∧ cfQ τ v ∧ cfP τ v ∧ cfL τ v ∧ cfD τ v ∧ cfR τ v ∧ wfP v ∧ wfQ v ∧ wfT v ∧ wfS v P ∧ wfN v P ∧ MW v C ∧ RX τ v C ∧ gr τ v P ∧ 0 ≤ v 4 ∧ v 4 ≤ nI (1000 * n) ∧ 0 ≤ v 10 ∧ v 10 ≤ nI (1000 * n)
/-- the texts -/
def tx (σ : xS) : Prop := ∃ len, len ≤ 120 ∧ σ 4 23 0 0 1 = nI len ∧ σ 5 30 0 0 5 = nI len ∧ ∀ i, i < len → σ 4 24 0 0 i = σ 5 35 0 0 i ∧ rg (σ 4 24 0 0 i) 0 127
def Inv (n : Nat) (σ : xS) : Prop := n ≤ 1000 → RR (σ 0) (vv σ) n ∧ (∀ j, j < 2 → σ 4 22 0 0 j = σ 5 34 0 0 j ∧ x_z (σ 4 22 0 0 j) = true ∧ (σ 4 22 0 0 j = 1 → RR (σ (2 + j)) (fun k => σ 5 33 0 0 (6464 * j + k)) n)) ∧ tx σ ∧ ∀ d p r, d < 4 → p < 6 → r < 3 → σ d 16 p r 0 = nI r
theorem RR_mono {τ : xD} {v : xV} {n : Nat} (hn : n < 1000) (h : RR τ v n) : RR τ v (n + 1) := by
  obtain ⟨C, P, h1, h2, h3, h4, h5, h6, h7, h8, h9, h10, h11, h12, h13, h14, h15, h16, h17, h18⟩ := h
  have hl : nI (1000 * n) ≤ nI (1000 * (n + 1)) := nI_le (by omega) (by omega)
  exact ⟨C, P, h1, h2, h3, h4, h5, h6, h7, h8, h9, h10, h11, h12, h13, h14, h15, by grind, h17, by grind⟩
theorem Inv_mono (n : Nat) (σ : xS) (h : Inv n σ) : Inv (n + 1) σ := by
  intro hn
  obtain ⟨h1, h2, h3, h4⟩ := h (by omega)
  exact ⟨RR_mono (by omega) h1, fun j hj => ⟨(h2 j hj).1, (h2 j hj).2.1, fun e => RR_mono (by omega) ((h2 j hj).2.2 e)⟩, h3, h4⟩
