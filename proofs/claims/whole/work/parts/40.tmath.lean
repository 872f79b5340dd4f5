/-! tapes and paper -/
abbrev wTa (dA : Nat → ClassId) (ta tr nn : Nat) (D : Int → Int) (at_ en : Int) (w_ : va_W) : va_W := (ta, .inr (2, [.ref tr, .int (iI at_), .int (iI en)])) :: (tr, .inl (dA 1, nn, .inl (arI D))) :: w_
abbrev wPa (dA : Nat → ClassId) (pa pr : Nat) (P : Int → Int) (pl : Int) (w_ : va_W) : va_W := (pa, .inr (1, [.ref pr, .int (iI pl)])) :: (pr, .inl (dA 1, 200, .inl (arI P))) :: w_
/-- a tape: its characters stand from at_ to en -/
def TP (nn : Nat) (D : Int → Int) (at_ en : Int) : Prop := 0 ≤ at_ ∧ at_ ≤ en ∧ en ≤ nn ∧ nn ≤ 100 ∧ ∀ j, at_ ≤ j → j < en → 32 ≤ D j ∧ D j ≤ 126
/-- spaces from p on are passed over, up to q -/
def skR (D : Int → Int) (p e q : Int) : Prop := p ≤ q ∧ q ≤ e ∧ (∀ j, p ≤ j → j < q → D j = 32) ∧ (q < e → D q ≠ 32)
theorem skR_u {D : Int → Int} {p e q r : Int} (h1 : skR D p e q) (h2 : skR D p e r) : q = r := by
  obtain ⟨a1, a2, a3, a4⟩ := h1
  obtain ⟨b1, b2, b3, b4⟩ := h2
  apply Decidable.byContradiction
  intro z
  rcases (show q < r ∨ r < q by omega) with h | h
  · exact a4 (by omega) (b3 q a1 h)
  · exact b4 (by omega) (a3 r b1 h)
theorem TP_sk {nn : Nat} {D : Int → Int} {a e q : Int} (h : TP nn D a e) (hs : skR D a e q) : TP nn D q e := ⟨by have := h.1; have := hs.1; omega, hs.2.1, h.2.2.1, h.2.2.2.1, fun j x y => h.2.2.2.2 j (by have := hs.1; omega) y⟩
