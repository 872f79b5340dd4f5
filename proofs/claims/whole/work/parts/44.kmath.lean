/-! tokens -/
abbrev wTo (dA : Nat → ClassId) (to : Nat) (cm rg : Int) (rv : Value) (st0 en0 lg : Int) (w_ : va_W) : va_W := (to, .inr (3, [.int (iI cm), .int (iI rg), rv, .int (iI st0), .int (iI en0), .int (iI lg)])) :: w_
def brs (c : Int) : Int := if c = 91 then 1 else if c = 93 then -1 else 0
def brk (D : Int → Int) (p : Int) : Nat → Int
  | 0 => 0
  | n + 1 => brk D p n + brs (D (p + n))
theorem brk_s {D : Int → Int} {p i : Int} (h : 0 ≤ i) : brk D p (i + 1).toNat = brk D p i.toNat + brs (D (p + i)) := by
  rw [(nu_s (D := D) (p := p) h).1]
  show brk D p i.toNat + brs (D (p + (i.toNat : Int))) = _
  rw [(nu_s (D := D) (p := p) h).2]
/-- m characters from p on are a text in brackets, the shortest -/
def txR (D : Int → Int) (p e m : Int) : Prop := 1 ≤ m ∧ m ≤ e - p ∧ brk D p m.toNat = 0 ∧ ∀ j, 1 ≤ j → j < m → brk D p j.toNat ≠ 0
def txN (D : Int → Int) (p e : Int) : Prop := ∀ j, 1 ≤ j → j ≤ e - p → brk D p j.toNat ≠ 0
def okc (D : Int → Int) (p j : Int) : Prop := (48 ≤ D j ∧ D j ≤ 57) ∨ (D j = 46 ∧ ∀ i, p ≤ i → i < j → D i ≠ 46)
/-- the characters of a numeral from p on go up to q -/
def nmR (D : Int → Int) (p e q : Int) : Prop := p ≤ q ∧ q ≤ e ∧ (∀ j, p ≤ j → j < q → okc D p j) ∧ (q < e → ¬ okc D p q)
def hasD (D : Int → Int) (p q : Int) : Prop := ∃ j, p ≤ j ∧ j < q ∧ 48 ≤ D j ∧ D j ≤ 57
def np (D : Int → Int) (p : Int) : Int := if D p = 95 then p + 1 else p
def nmJ (D : Int → Int) (p i dgs pts : Int) : Prop := p ≤ i ∧ (0 ≤ dgs ∧ dgs ≤ i - p) ∧ (pts = 0 ∨ pts = 1) ∧ (pts = 0 → ∀ j, p ≤ j → j < i → D j ≠ 46) ∧ (pts = 1 → ∃ j, p ≤ j ∧ j < i ∧ D j = 46) ∧ (∀ j, p ≤ j → j < i → okc D p j) ∧ (0 < dgs → hasD D p i) ∧ (dgs = 0 → ¬ hasD D p i)
theorem nmz_0 {D : Int → Int} {p : Int} : nmJ D p p 0 0 := ⟨Int.le_refl _, by omega, Or.inl rfl, fun _ j x y => by omega, fun z => by omega, fun j x y => by omega, fun z => by omega, fun _ ⟨j, x, y, _⟩ => by omega⟩
theorem nmz_p {D : Int → Int} {p i dgs pts : Int} (hJ : nmJ D p i dgs pts) (h : D i = 46) (hp : pts = 0) : nmJ D p (i + 1) dgs (pts + 1) := by
  obtain ⟨a1, a2, a3, a4, a5, a6, a7, a8⟩ := hJ
  refine ⟨by omega, by omega, by omega, fun z => by omega, fun _ => ⟨i, a1, by omega, h⟩, fun j x y => ?_, fun z => ?_, fun z => ?_⟩
  · rcases (show j < i ∨ j = i by omega) with w | w
    · exact a6 j x w
    · rw [w]; exact Or.inr ⟨h, a4 hp⟩
  · obtain ⟨j, x, y, w⟩ := a7 z
    exact ⟨j, x, by omega, w⟩
  · rintro ⟨j, x, y, w⟩
    rcases (show j < i ∨ j = i by omega) with q | q
    · exact a8 z ⟨j, x, q, w⟩
    · rw [q] at w; omega
theorem nmz_d {D : Int → Int} {p i dgs pts : Int} (hJ : nmJ D p i dgs pts) (h : 48 ≤ D i ∧ D i ≤ 57) : nmJ D p (i + 1) (dgs + 1) pts := by
  obtain ⟨a1, a2, a3, a4, a5, a6, a7, a8⟩ := hJ
  refine ⟨by omega, by omega, a3, fun z j x y => ?_, fun z => ?_, fun j x y => ?_, fun _ => ⟨i, a1, by omega, h⟩, fun z => by omega⟩
  · rcases (show j < i ∨ j = i by omega) with w | w
    · exact a4 z j x w
    · rw [w]; omega
  · obtain ⟨j, x, y, w⟩ := a5 z
    exact ⟨j, x, by omega, w⟩
  · rcases (show j < i ∨ j = i by omega) with w | w
    · exact a6 j x w
    · rw [w]; exact Or.inl h
theorem nmz_e {D : Int → Int} {p i dgs pts e : Int} (hJ : nmJ D p i dgs pts) (hi : i ≤ e) (hx : i = e ∨ ((D i < 48 ∨ 57 < D i) ∧ (D i ≠ 46 ∨ pts = 1))) : nmR D p e i := by
  obtain ⟨a1, a2, a3, a4, a5, a6, a7, a8⟩ := hJ
  refine ⟨a1, hi, a6, fun z w => ?_⟩
  rcases hx with hx | ⟨h1, h2⟩
  · omega
  · rcases w with w | ⟨w1, w2⟩
    · omega
    · rcases h2 with h2 | h2
      · exact h2 w1
      · obtain ⟨j, x, y, v⟩ := a5 h2
        exact w2 j x y v
