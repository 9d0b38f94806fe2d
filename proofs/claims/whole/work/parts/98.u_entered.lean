/-! ===== a packet has entered ===== -/
section EN
variable {τ τ' : xD} {v v' : xV} {b C P p r k sz m : Nat} {s l : Nat → Nat}
/-- what is known of an entering -/
def EH (τ τ' : xD) (v v' : xV) (b C P p r k sz m : Nat) (s l : Nat → Nat) : Prop := RC τ v b C P p r sz ∧ p < P ∧ r < 3 ∧ 1 ≤ sz ∧ sz ≤ 12 ∧ k < 128 ∧ v (ik k 3) = 0 ∧ nsum l m = sz ∧ 1 ≤ m ∧ m ≤ 12 ∧ (∀ i, i < m → 1 ≤ l i ∧ s i + l i ≤ C ∧ ∀ c, s i ≤ c → c < s i + l i → gV v c = true) ∧ (∀ i i' c, i < m → i' < m → s i ≤ c → c < s i + l i → s i' ≤ c → c < s i' + l i' → i = i') ∧ EF τ τ' v v' p r k sz m (Ln v (3 * p + r)) s l
theorem EH_fun (h : EH τ τ' v v' b C P p r k sz m s l) : (Sz v' k = sz ∧ Pn v' k = m ∧ Us v' k ∧ (∀ i, i < m → Fs v' k i = s i ∧ Fl v' k i = l i)) ∧ (∀ k', k' < 128 → k' ≠ k → Sz v' k' = Sz v k' ∧ Pn v' k' = Pn v k' ∧ (Us v' k' ↔ Us v k') ∧ ∀ i, i < 12 → Fs v' k' i = Fs v k' i ∧ Fl v' k' i = Fl v k' i) ∧ (Ln v' (3 * p + r) = Ln v (3 * p + r) + 1 ∧ ∀ q, q < 18 → q ≠ 3 * p + r → Ln v' q = Ln v q) ∧ (Sl v' (3 * p + r) (Ln v (3 * p + r)) = k ∧ ∀ q i, q < 18 → i < Ln v q → Sl v' q i = Sl v q i) ∧ ¬ Us v k ∧ Ln v (3 * p + r) + 1 ≤ 128 ∧ (∀ q i, q < 18 → i < Ln v q → Sl v q i ≠ k) := by
  obtain ⟨hC, hp, hr, s1, s12, k1, k2, n1, m1, m12, F1, F2, E1, E2, E3, ⟨E4, E4'⟩, ⟨E5, E5'⟩, -⟩ := h
  obtain ⟨hG, hQ, hPp, hLs, hDd, hRf, wP, wQ, wT, wN, hM, hA, hX, -⟩ := hC
  have h6 := hG.2.2.2.2.2.1
  have h8 := hG.2.2.1
  have hUq : Ln v (3 * p + r) + 1 ≤ 128 := by
    have a := (hA (3 * p + r) (by omega)).2
    rw [if_pos rfl] at a
    have b : Ln v (3 * p + r) ≤ Uq v (3 * p + r) := nsum_ge _ (fun i hi => by
      have e := hM.2.1 (3 * p + r) i (by omega) hi
      exact (hM.2.2.2.2.1 _ e.2.1 e.2.2).2.1)
    omega
  have hnu : ¬ Us v k := fun z => by rw [Us, k2] at z; exact absurd z (by decide)
  refine ⟨⟨?_, ?_, ?_, fun i hi => ⟨?_, ?_⟩⟩, fun k' a1 a2 => ⟨?_, ?_, ?_, fun i hi => ⟨?_, ?_⟩⟩, ⟨?_, fun q a1 a2 => ?_⟩, ⟨?_, fun q i a1 a2 => ?_⟩, hnu, hUq, fun q i a1 a2 e => ?_⟩
  · rw [Sz, E1.2.1, nI_clamp (by omega)]
  · rw [Pn, E1.2.2.1, nI_clamp (by omega)]
  · exact E1.2.2.2
  · have := F1 i hi
    rw [Fs, (E2 i hi).1, nI_clamp (by omega)]
  · have := F1 i hi
    rw [Fl, (E2 i hi).2, nI_clamp (by omega)]
  · rw [Sz, E3 k' 1 a1 a2 (by omega)]; rfl
  · rw [Pn, E3 k' 2 a1 a2 (by omega)]; rfl
  · rw [Us, E3 k' 3 a1 a2 (by omega)]; exact Iff.rfl
  · rw [Fs, E3 k' _ a1 a2 (by omega)]; rfl
  · rw [Fl, E3 k' _ a1 a2 (by omega)]; rfl
  · rw [Ln, E5, nI_clamp (by omega)]
  · rw [Ln, E5' q 12 a1 (by omega) (Or.inl a2)]; rfl
  · rw [Sl, E4, nI_clamp (by omega)]
  · have := hM.1 q a1
    rw [Sl, E4' q i a1 (by omega) (by
      by_cases e : q = 3 * p + r
      · subst e; exact Or.inr (by omega)
      · exact Or.inl e)]
    rfl
  · have := hM.2.1 q i a1 a2
    rw [e] at this
    exact hnu this.2.2
theorem EH_free (h : EH τ τ' v v' b C P p r k sz m s l) {k' f c : Nat} (hk : k' < 128) (hu : Us v k') (hf : f < Pn v k') (h1 : Fs v k' f ≤ c) (h2 : c < Fs v k' f + Fl v k' f) : ∀ i, i < m → ¬ (s i ≤ c ∧ c < s i + l i) := fun i hi y => by
  have hM := h.1.2.2.2.2.2.2.2.2.2.2.1
  have F1 := h.2.2.2.2.2.2.2.2.2.2.1
  have e := hM.2.2.2.2.2.2.2.1 k' f c hk hu hf h1 h2
  have g := (F1 i hi).2.2 c y.1 y.2
  unfold gV at g
  have g' := of_decide_eq_true g
  rw [e] at g'
  exact absurd g' (nI_ne0 (by omega) (by omega))
theorem MX_ent (hb : b + 1 < 2 ^ 31) (h : EH τ τ' v v' b C P p r k sz m s l) : MX v' C := by
  obtain ⟨⟨a1, a2, a3, a4⟩, b1, ⟨c1, c2⟩, ⟨d1, d2⟩, hnu, hL, hne⟩ := EH_fun h
  have hfree := fun {k' f c} => EH_free (k' := k') (f := f) (c := c) h
  obtain ⟨hC, hp, hr, s1, s12, k1, k2, n1, m1, m12, F1, F2, E1, E2, E3, ⟨E4, E4'⟩, ⟨E5, E5'⟩, ⟨E6, E6'⟩, E7, E8, -⟩ := h
  obtain ⟨hG, hQ, hPp, hLs, hDd, hRf, wP, wQ, wT, wN, hM, hA, hX, hg, hS, hpr, g1, g2, -⟩ := hC
  obtain ⟨xL, xE, xI, xU, xK, xJ, xM, xF, xD⟩ := hM
  have h6 := hG.2.2.2.2.2.1
  have hbb : nI b < 2147483647 := nI_lt (b := 2147483647) (by omega) (by omega)
  -- a place is an old one, or the new one
  have plc : ∀ q i, q < 18 → i < Ln v' q → (i < Ln v q ∧ Sl v' q i = Sl v q i) ∨ (q = 3 * p + r ∧ i = Ln v (3 * p + r) ∧ Sl v' q i = k) := fun q i hq hi => by
    by_cases e : q = 3 * p + r
    · subst e
      rw [c1] at hi
      by_cases y : i = Ln v (3 * p + r)
      · subst y; exact Or.inr ⟨rfl, rfl, d1⟩
      · exact Or.inl ⟨by omega, d2 _ i hq (by omega)⟩
    · rw [c2 q hq e] at hi
      exact Or.inl ⟨hi, d2 q i hq hi⟩
  have hPn : ∀ {k'}, k' < 128 → Us v k' → Pn v k' ≤ 12 := fun x y => (xK _ x y).2.2.2.2.2.1
  have old : ∀ {k'}, k' < 128 → Us v' k' → k' ≠ k → Us v k' := fun x y z => ((b1 _ x z).2.2.1).mp y
  refine ⟨fun q hq => ?_, fun q i hq hi => ?_, fun q i q' i' hq hi hq' hi' he => ?_, fun k' k1' => ?_, fun k' k1' k2' => ?_, fun k' k'' x1 x2 x3 x4 he => ?_, fun c hc => ?_, fun k' f c x1 x2 x3 x4 x5 => ?_, fun k' f f' c x1 x2 x3 x4 x5 x6 x7 x8 => ?_⟩
  · by_cases e : q = 3 * p + r
    · subst e; rw [E5, c1]; exact ⟨rfl, hL⟩
    · rw [E5' q 12 hq (by omega) (Or.inl e), c2 q hq e]; exact xL q hq
  · rcases plc q i hq hi with ⟨y1, y2⟩ | ⟨y1, y2, y3⟩
    · obtain ⟨z1, z2, z3⟩ := xE q i hq y1
      have hn := hne q i hq y1
      rw [y2]
      refine ⟨?_, z2, ((b1 _ z2 hn).2.2.1).mpr z3⟩
      have := xL q hq
      rw [E4' q i hq (by omega) (by
        by_cases e : q = 3 * p + r
        · subst e; exact Or.inr (by omega)
        · exact Or.inl e)]
      exact z1
    · rw [y3, y1, y2]
      exact ⟨E4, k1, a3⟩
  · rcases plc q i hq hi with ⟨y1, y2⟩ | ⟨y1, y2, y3⟩
    · rcases plc q' i' hq' hi' with ⟨z1, z2⟩ | ⟨z1, z2, z3⟩
      · rw [y2, z2] at he; exact xI q i q' i' hq y1 hq' z1 he
      · rw [y2, z3] at he; exact absurd he (hne q i hq y1)
    · rcases plc q' i' hq' hi' with ⟨z1, z2⟩ | ⟨z1, z2, z3⟩
      · rw [y3, z2] at he; exact absurd he.symm (hne q' i' hq' z1)
      · exact ⟨y1.trans z1.symm, y2.trans z2.symm⟩
  · by_cases e : k' = k
    · subst e
      exact Or.inr ⟨a3, 3 * p + r, Ln v (3 * p + r), by omega, by rw [c1]; omega, d1⟩
    · rw [E3 k' 3 k1' e (by omega)]
      rcases xU k' k1' with z | ⟨z, q, i, hq, hi, hs⟩
      · exact Or.inl z
      · refine Or.inr ⟨((b1 k' k1' e).2.2.1).mpr z, q, i, hq, ?_, by rw [d2 q i hq hi, hs]⟩
        by_cases e2 : q = 3 * p + r
        · subst e2; rw [c1]; omega
        · rw [c2 q hq e2]; exact hi
  · by_cases e : k' = k
    · subst e
      rw [a1, a2, E1.1, E1.2.1, E1.2.2.1, E6]
      refine ⟨rfl, s1, s12, rfl, m1, m12, fun f hf => ?_, ?_, g1, by grind⟩
      · rw [(a4 f hf).1, (a4 f hf).2]
        exact ⟨(E2 f hf).1, (E2 f hf).2, (F1 f hf).1, (F1 f hf).2.1⟩
      · rw [← n1]; exact nsum_c (fun f hf => (a4 f hf).2)
    · have hu := old k1' k2' e
      have hP := hPn k1' hu
      obtain ⟨z1, z2, -, z4⟩ := b1 k' k1' e
      obtain ⟨y1, y2, y3, y4, y5, y6, y7, y8, y9, y10⟩ := xK k' k1' hu
      rw [z1, z2, E3 k' 0 k1' e (by omega), E3 k' 1 k1' e (by omega), E3 k' 2 k1' e (by omega), E6]
      refine ⟨y1, y2, y3, y4, y5, y6, fun f hf => ?_, ?_, y9, by grind⟩
      · rw [(z4 f (by omega)).1, (z4 f (by omega)).2, E3 k' _ k1' e (by omega), E3 k' _ k1' e (by omega)]
        exact y7 f hf
      · rw [← y8]; exact nsum_c (fun f hf => (z4 f (by omega)).2)
  · by_cases e : k' = k
    · by_cases e2 : k'' = k
      · rw [e, e2]
      · have hu := old x3 x4 e2
        rw [e, E1.1, E3 k'' 0 x3 e2 (by omega)] at he
        have := (xK k'' x3 hu).2.2.2.2.2.2.2.2.2
        rw [← he] at this
        grind
    · have hu := old x1 x2 e
      by_cases e2 : k'' = k
      · rw [e2, E1.1, E3 k' 0 x1 e (by omega)] at he
        have := (xK k' x1 hu).2.2.2.2.2.2.2.2.2
        rw [he] at this
        grind
      · have hu2 := old x3 x4 e2
        rw [E3 k' 0 x1 e (by omega), E3 k'' 0 x3 e2 (by omega)] at he
        exact xJ k' k'' x1 hu x3 hu2 he
  · by_cases z : ∃ i, i < m ∧ s i ≤ c ∧ c < s i + l i
    · obtain ⟨i, i1, i2, i3⟩ := z
      refine Or.inr ⟨k, k1, a3, (E7 c ⟨i, i1, i2, i3⟩).2, i, by rw [a2]; exact i1, ?_, ?_⟩
      · rw [(a4 i i1).1]; exact i2
      · rw [(a4 i i1).1, (a4 i i1).2]; exact i3
    · rw [(E8 c (fun i i1 i2 => z ⟨i, i1, i2⟩)).2]
      rcases xM c hc with y | ⟨k', y1, y2, y3, f, f1, f2, f3⟩
      · exact Or.inl y
      · have e : k' ≠ k := fun e => hnu (by rw [← e]; exact y2)
        have hP := hPn y1 y2
        obtain ⟨z1, z2, z3, z4⟩ := b1 k' y1 e
        refine Or.inr ⟨k', y1, z3.mpr y2, y3, f, by rw [z2]; exact f1, ?_, ?_⟩
        · rw [(z4 f (by omega)).1]; exact f2
        · rw [(z4 f (by omega)).1, (z4 f (by omega)).2]; exact f3
  · by_cases e : k' = k
    · subst e
      rw [a2] at x3
      rw [(a4 f x3).1] at x4 x5
      rw [(a4 f x3).2] at x5
      exact (E7 c ⟨f, x3, x4, x5⟩).2
    · have hu := old x1 x2 e
      have hP := hPn x1 hu
      obtain ⟨z1, z2, z3, z4⟩ := b1 k' x1 e
      rw [z2] at x3
      rw [(z4 f (by omega)).1] at x4 x5
      rw [(z4 f (by omega)).2] at x5
      rw [(E8 c (hfree x1 hu x3 x4 x5)).2]
      exact xF k' f c x1 hu x3 x4 x5
  · by_cases e : k' = k
    · subst e
      rw [a2] at x3 x4
      rw [(a4 f x3).1] at x5 x6
      rw [(a4 f x3).2] at x6
      rw [(a4 f' x4).1] at x7 x8
      rw [(a4 f' x4).2] at x8
      exact F2 f f' c x3 x4 x5 x6 x7 x8
    · have hu := old x1 x2 e
      have hP := hPn x1 hu
      obtain ⟨z1, z2, z3, z4⟩ := b1 k' x1 e
      rw [z2] at x3 x4
      rw [(z4 f (by omega)).1] at x5 x6
      rw [(z4 f (by omega)).2] at x6
      rw [(z4 f' (by omega)).1] at x7 x8
      rw [(z4 f' (by omega)).2] at x8
      exact xD k' f f' c x1 hu x3 x4 x5 x6 x7 x8
theorem RX_ent (h : EH τ τ' v v' b C P p r k sz m s l) : RX τ' v' C := by
  obtain ⟨⟨a1, a2, a3, a4⟩, b1, ⟨c1, c2⟩, ⟨d1, d2⟩, hnu, hL, hne⟩ := EH_fun h
  have hfree := fun {k' f c} => EH_free (k' := k') (f := f) (c := c) h
  obtain ⟨hC, hp, hr, s1, s12, k1, k2, n1, m1, m12, F1, F2, E1, E2, E3, ⟨E4, E4'⟩, ⟨E5, E5'⟩, ⟨E6, E6'⟩, E7, E8, E9, E10, E11, E12, E13, E14, E15, E16, E17, -⟩ := h
  obtain ⟨hG, hQ, hPp, hLs, hDd, hRf, wP, wQ, wT, wN, hM, hA, hX, hg, hS, hpr, g1, g2, -⟩ := hC
  have hMX := hM
  obtain ⟨xL, xE, xI, xU, xK, xJ, xM, xF, xD⟩ := hM
  obtain ⟨yQ, yK, yN, yM, yz⟩ := hX
  have h6 := hG.2.2.2.2.2.1
  have h8 := hG.2.2.1
  have hPn : ∀ {k'}, k' < 128 → Us v k' → Pn v k' ≤ 12 ∧ 1 ≤ Pn v k' := fun x y => ⟨(xK _ x y).2.2.2.2.2.1, (xK _ x y).2.2.2.2.1⟩
  have old : ∀ {k'}, k' < 128 → Us v' k' → k' ≠ k → Us v k' := fun x y z => ((b1 _ x z).2.2.1).mp y
  have s0C : s 0 < C := by have := F1 0 (by omega); omega
  have ek0 : Fs v' k 0 = s 0 := (a4 0 (by omega)).1
  -- a piece of an old packet begins at no new piece
  have fne : ∀ k' f i, k' < 128 → Us v k' → f < Pn v k' → i < m → Fs v k' f ≠ s i := fun k' f i x1 x2 x3 x4 e => by
    have hl := ((xK k' x1 x2).2.2.2.2.2.2.1 f x3).2.2.1
    have := hfree x1 x2 x3 (c := Fs v k' f) (by omega) (by omega) i x4
    have := F1 i x4
    omega
  have cne : ∀ q i, q < 18 → i < Ln v q → Fs v (Sl v q i) 0 ≠ s 0 := fun q i x1 x2 => by
    have e := xE q i x1 x2
    exact fne _ 0 0 e.2.1 e.2.2 (by have := hPn e.2.1 e.2.2; omega) (by omega)
  have fso : ∀ q i, q < 18 → i < Ln v q → Fs v' (Sl v q i) 0 = Fs v (Sl v q i) 0 := fun q i x1 x2 => by
    have e := xE q i x1 x2
    exact ((b1 _ e.2.1 (hne q i x1 x2)).2.2.2 0 (by omega)).1
  have cello : ∀ q i, q < 18 → i < Ln v q → cellAt v' q i = cellAt v q i := fun q i x1 x2 => by
    have hi : i < Ln v' q := by
      by_cases e : q = 3 * p + r
      · subst e; rw [c1]; omega
      · rw [c2 q x1 e]; exact x2
    rw [cellAt_in hi, cellAt_in x2, d2 q i x1 x2, fso q i x1 x2]
  have celln : cellAt v' (3 * p + r) (Ln v (3 * p + r)) = nI (s 0) := by
    rw [cellAt_in (by rw [c1]; omega), d1, ek0]
  obtain ⟨w1, w2, w3⟩ := yQ p r (by omega) hr
  have clt : ∀ q i, q < 18 → i < Ln v q → Fs v (Sl v q i) 0 < 128 := fun q i x1 x2 => by
    have e := xE q i x1 x2
    have := (xK _ e.2.1 e.2.2).2.2.2.2.2.2.1 0 (by have := hPn e.2.1 e.2.2; omega)
    omega
  have lst : τ 16 p r 14 = -1 ↔ Ln v (3 * p + r) = 0 := by
    rw [w2]
    by_cases z : Ln v (3 * p + r) = 0
    · rw [if_pos z]; exact ⟨fun _ => z, fun _ => rfl⟩
    · have := clt (3 * p + r) (Ln v (3 * p + r) - 1) (by omega) (by omega)
      rw [if_neg z, cellAt_in (by omega)]
      exact ⟨fun y => absurd y (nI_nm1 (by omega)), fun y => absurd y z⟩
  have dis : ∀ q i, q < 18 → i < Ln v q → (τ 16 p r 14 ≠ -1 ∧ Fs v (Sl v q i) 0 = (τ 16 p r 14).toNatClampNeg ↔ q = 3 * p + r ∧ i + 1 = Ln v (3 * p + r)) := fun q i x1 x2 => by
    by_cases z : Ln v (3 * p + r) = 0
    · refine ⟨fun y => absurd (lst.mpr z) y.1, fun y => ?_⟩
      omega
    · have hlt := clt (3 * p + r) (Ln v (3 * p + r) - 1) (by omega) (by omega)
      rw [w2, if_neg z, cellAt_in (by omega), nI_clamp (by omega)]
      constructor
      · intro y
        have e1 := xE q i x1 x2
        have e2 := xE (3 * p + r) (Ln v (3 * p + r) - 1) (by omega) (by omega)
        have := xI _ _ _ _ x1 x2 (by omega) (by omega) (cell_inj hMX e1.2.1 e1.2.2 e2.2.1 e2.2.2 y.2)
        omega
      · rintro ⟨y1, y2⟩
        subst y1
        exact ⟨nI_nm1 (by omega), by rw [show i = Ln v (3 * p + r) - 1 by omega]⟩
  refine ⟨fun p' r' hp' hr' => ?_, fun k' x1 x2 => ?_, fun c hc => ?_, fun c hc => ?_, fun c hc => ?_⟩
  · by_cases e : p' = p ∧ r' = r
    · obtain ⟨rfl, rfl⟩ := e
      rw [c1]
      refine ⟨?_, ?_, fun i hi => ?_⟩
      · rw [E13.1]
        by_cases z : Ln v (3 * p' + r') = 0
        · rw [if_pos (lst.mpr z)]
          have := celln
          rw [z] at this
          exact this.symm
        · rw [if_neg (fun y => z (lst.mp y)), w1, cello _ 0 (by omega) (by omega)]
      · rw [if_neg (by omega), E13.2.1, Nat.add_sub_cancel, celln]
      · by_cases y : i = Ln v (3 * p' + r')
        · subst y
          rw [d1, ek0, E15, E14, if_pos rfl, if_neg (fun z => ?_), if_pos rfl, cellAt_out (by rw [c1]; omega)]
          · refine ⟨rfl, ?_⟩
            rw [w2]
            by_cases z : Ln v (3 * p' + r') = 0
            · rw [if_pos z, if_pos z]
            · rw [if_neg z, if_neg z, cello _ _ (by omega) (by omega)]
          · have hz : Ln v (3 * p' + r') ≠ 0 := fun q => z.1 (lst.mpr q)
            have hlt := clt (3 * p' + r') (Ln v (3 * p' + r') - 1) (by omega) (by omega)
            have z2 := z.2
            rw [w2, if_neg hz, cellAt_in (by omega), nI_clamp (by omega)] at z2
            exact cne (3 * p' + r') (Ln v (3 * p' + r') - 1) (by omega) (by omega) z2.symm
        · have hi' : i < Ln v (3 * p' + r') := by omega
          obtain ⟨u1, u2⟩ := w3 i hi'
          rw [d2 _ i (by omega) hi', fso _ i (by omega) hi', E15, E14]
          constructor
          · by_cases z : i + 1 = Ln v (3 * p' + r')
            · rw [if_pos ((dis _ i (by omega) hi').mpr ⟨rfl, z⟩), z, celln]
            · rw [if_neg (fun q => z ((dis _ i (by omega) hi').mp q).2), if_neg (cne _ i (by omega) hi'), u1, cello _ _ (by omega) (by omega)]
          · rw [if_neg (cne _ i (by omega) hi'), u2]
            by_cases z : i = 0
            · rw [if_pos z, if_pos z]
            · rw [if_neg z, if_neg z, cello _ _ (by omega) (by omega)]
    · have hn : 3 * p' + r' ≠ 3 * p + r := by omega
      obtain ⟨u1, u2, u3⟩ := yQ p' r' hp' hr'
      have hfr : ∀ c, c = 13 ∨ c = 14 → τ' 16 p' r' c = τ 16 p' r' c := fun c hc => E17 16 p' r' c (by omega) (by omega) (by omega)
      rw [hfr 13 (by omega), hfr 14 (by omega), c2 _ (by omega) hn]
      refine ⟨?_, ?_, fun i hi => ?_⟩
      · rw [u1]
        by_cases z : 0 < Ln v (3 * p' + r')
        · rw [cello _ 0 (by omega) z]
        · rw [cellAt_out z, cellAt_out (by rw [c2 _ (by omega) hn]; exact z)]
      · rw [u2]
        by_cases z : Ln v (3 * p' + r') = 0
        · rw [if_pos z, if_pos z]
        · rw [if_neg z, if_neg z, cello _ _ (by omega) (by omega)]
      · obtain ⟨t1, t2⟩ := u3 i hi
        rw [d2 _ i (by omega) hi, fso _ i (by omega) hi, E15, E14, if_neg (fun q => hn ((dis _ i (by omega) hi).mp q).1)]
        constructor
        · rw [if_neg (cne _ i (by omega) hi), t1]
          by_cases z : i + 1 < Ln v (3 * p' + r')
          · rw [cello _ _ (by omega) z]
          · rw [cellAt_out z, cellAt_out (by rw [c2 _ (by omega) hn]; exact z)]
        · rw [if_neg (cne _ i (by omega) hi), t2]
          by_cases z : i = 0
          · rw [if_pos z, if_pos z]
          · rw [if_neg z, if_neg z, cello _ _ (by omega) (by omega)]
  · by_cases e : k' = k
    · subst e
      rw [ek0, E11.1, E11.2.1, E11.2.2, E1.1, E1.2.1, E1.2.2.1, a2]
      refine ⟨hDd.2.2.2.2.1, rfl, rfl, fun f hf => ?_⟩
      rw [(a4 f hf).1, (E2 f hf).2]
      refine ⟨(E9 f hf).1, ?_⟩
      rw [(E9 f hf).2]
      by_cases z : f + 1 < m
      · rw [if_pos z, if_pos z, (a4 (f + 1) z).1]
      · rw [if_neg z, if_neg z]
    · have hu := old x1 x2 e
      have hP := hPn x1 hu
      obtain ⟨z1, z2, z3, z4⟩ := b1 k' x1 e
      obtain ⟨t1, t2, t3, t4⟩ := yK k' x1 hu
      have n0 := fne k' 0 0 x1 hu (by omega) (by omega)
      rw [(z4 0 (by omega)).1, E12 5 _ (by omega) n0, E12 6 _ (by omega) n0, E12 7 _ (by omega) n0, E3 k' 0 x1 e (by omega), E3 k' 1 x1 e (by omega), E3 k' 2 x1 e (by omega), z2]
      refine ⟨t1, t2, t3, fun f hf => ?_⟩
      have hlt : Fs v k' f < 128 := by have := (xK k' x1 hu).2.2.2.2.2.2.1 f hf; omega
      obtain ⟨e3, e4⟩ := E10 (Fs v k' f) hlt (fun i hi => fne k' f i x1 hu hf hi)
      rw [(z4 f (by omega)).1, e3, e4, E3 k' _ x1 e (by omega)]
      refine ⟨(t4 f hf).1, ?_⟩
      rw [(t4 f hf).2]
      by_cases y : f + 1 < Pn v k'
      · rw [if_pos y, if_pos y, (z4 (f + 1) (by omega)).1]
      · rw [if_neg y, if_neg y]
  · by_cases e : c = s 0
    · exact Or.inr ⟨k, k1, a3, by rw [ek0, e]⟩
    · rw [E12 5 c (by omega) e]
      rcases yN c hc with z | ⟨k', x1, x2, x3⟩
      · exact Or.inl z
      · have hn : k' ≠ k := fun y => hnu (by rw [← y]; exact x2)
        obtain ⟨z1, z2, z3, z4⟩ := b1 k' x1 hn
        exact Or.inr ⟨k', x1, z3.mpr x2, by rw [(z4 0 (by omega)).1]; exact x3⟩
  · by_cases z : ∃ i, i < m ∧ s i ≤ c ∧ c < s i + l i
    · rw [(E7 c z).1, (E7 c z).2, if_neg (nI_ne0 (by omega) (by omega))]
    · have := E8 c (fun i i1 i2 => z ⟨i, i1, i2⟩)
      rw [this.1, this.2]
      exact yM c hc
  · by_cases z : ∃ i, i < m ∧ s i ≤ c ∧ c < s i + l i
    · rw [(E7 c z).1]; rfl
    · have := E8 c (fun i i1 i2 => z ⟨i, i1, i2⟩)
      rw [this.1]
      exact yz c hc
end EN
