/-! a Value: a number or a text; numerals -/
abbrev wVa (dA : Nat → ClassId) (x w cr : Nat) (t ng sc : Int) (C : Int → Int) (ln : Int) (w_ : va_W) : va_W := (x, .inr (4, [.int (iI t), .ref w, .int (iI ng), .int (iI sc), .ref cr, .int (iI ln)])) :: (cr, .inl (dA 1, 60, .inl (arI C))) :: w_
abbrev wCh (dA : Nat → ClassId) (fr nn : Nat) (D : Int → Int) (w_ : va_W) : va_W := (fr, .inl (dA 1, nn, .inl (arI D))) :: w_
def VV (t ng sc ln : Int) (C : Int → Int) (N : Int) : Prop := (t = 0 ∨ t = 1) ∧ (ng = 0 ∨ ng = 1) ∧ (0 ≤ sc ∧ sc ≤ 40) ∧ (0 ≤ ln ∧ ln ≤ 60) ∧ (∀ j, 0 ≤ j → j < ln → 32 ≤ C j ∧ C j ≤ 126) ∧ (t = 0 → ln = 0) ∧ (t = 1 → N = 0 ∧ sc = 0) ∧ (ng = 1 → N ≠ 0) ∧ N < PW 10 60
theorem VV_c {t ng sc ln N : Int} {C C1 : Int → Int} (h : VV t ng sc ln C N) (he : ∀ j, 0 ≤ j → j < ln → C1 j = C j) : VV t ng sc ln C1 N := ⟨h.1, h.2.1, h.2.2.1, h.2.2.2.1, fun j a b => by rw [he j a b]; exact h.2.2.2.2.1 j a b, h.2.2.2.2.2⟩
/-- read from the left: the number, whether the point was there, how many digits behind it, whether the sign was there -/
def nuP (D : Int → Int) (p : Int) : Nat → Int
  | 0 => 0
  | n + 1 => if D (p + n) = 46 then 1 else nuP D p n
def nuN (D : Int → Int) (p : Int) : Nat → Int
  | 0 => 0
  | n + 1 => if D (p + n) = 95 ∨ D (p + n) = 46 then nuN D p n else nuN D p n * 10 + (D (p + n) - 48)
def nuS (D : Int → Int) (p : Int) : Nat → Int
  | 0 => 0
  | n + 1 => if D (p + n) = 95 ∨ D (p + n) = 46 then nuS D p n else nuS D p n + nuP D p n
def nuM (D : Int → Int) (p : Int) : Nat → Int
  | 0 => 0
  | n + 1 => if D (p + n) = 95 then 1 else nuM D p n
theorem nu_s {D : Int → Int} {p i : Int} (h : 0 ≤ i) : (i + 1).toNat = i.toNat + 1 ∧ p + (i.toNat : Int) = p + i := by omega
theorem nuN_s {D : Int → Int} {p i : Int} (h : 0 ≤ i) : nuN D p (i + 1).toNat = if D (p + i) = 95 ∨ D (p + i) = 46 then nuN D p i.toNat else nuN D p i.toNat * 10 + (D (p + i) - 48) := by
  rw [(nu_s (D := D) (p := p) h).1]
  show (if D (p + (i.toNat : Int)) = 95 ∨ D (p + (i.toNat : Int)) = 46 then _ else _) = _
  rw [(nu_s (D := D) (p := p) h).2]
theorem nuS_s {D : Int → Int} {p i : Int} (h : 0 ≤ i) : nuS D p (i + 1).toNat = if D (p + i) = 95 ∨ D (p + i) = 46 then nuS D p i.toNat else nuS D p i.toNat + nuP D p i.toNat := by
  rw [(nu_s (D := D) (p := p) h).1]
  show (if D (p + (i.toNat : Int)) = 95 ∨ D (p + (i.toNat : Int)) = 46 then _ else _) = _
  rw [(nu_s (D := D) (p := p) h).2]
theorem nuP_s {D : Int → Int} {p i : Int} (h : 0 ≤ i) : nuP D p (i + 1).toNat = if D (p + i) = 46 then 1 else nuP D p i.toNat := by
  rw [(nu_s (D := D) (p := p) h).1]
  show (if D (p + (i.toNat : Int)) = 46 then _ else _) = _
  rw [(nu_s (D := D) (p := p) h).2]
theorem nuM_s {D : Int → Int} {p i : Int} (h : 0 ≤ i) : nuM D p (i + 1).toNat = if D (p + i) = 95 then 1 else nuM D p i.toNat := by
  rw [(nu_s (D := D) (p := p) h).1]
  show (if D (p + (i.toNat : Int)) = 95 then _ else _) = _
  rw [(nu_s (D := D) (p := p) h).2]
theorem nuP_b {D : Int → Int} {p : Int} : ∀ n, nuP D p n = 0 ∨ nuP D p n = 1
  | 0 => Or.inl rfl
  | n + 1 => by
    have := nuP_b (D := D) (p := p) n
    unfold nuP
    split <;> omega
theorem nuM_b {D : Int → Int} {p : Int} : ∀ n, nuM D p n = 0 ∨ nuM D p n = 1
  | 0 => Or.inl rfl
  | n + 1 => by
    have := nuM_b (D := D) (p := p) n
    unfold nuM
    split <;> omega
theorem nuS_b {D : Int → Int} {p : Int} : ∀ n, 0 ≤ nuS D p n ∧ nuS D p n ≤ n
  | 0 => by unfold nuS; omega
  | n + 1 => by
    have h1 := nuS_b (D := D) (p := p) n
    have h2 := nuP_b (D := D) (p := p) n
    unfold nuS
    split <;> omega
def nuOK (D : Int → Int) (p n : Int) : Prop := ∀ j, 0 ≤ j → j < n → D (p + j) = 95 ∨ D (p + j) = 46 ∨ (48 ≤ D (p + j) ∧ D (p + j) ≤ 57)
theorem nuN_b {D : Int → Int} {p n : Int} (hok : nuOK D p n) : ∀ i : Int, 0 ≤ i → i ≤ n → 0 ≤ nuN D p i.toNat ∧ nuN D p i.toNat < PW 10 i :=
  int_ind (fun _ => by rw [PW_0]; show 0 ≤ (0 : Int) ∧ (0 : Int) < 1; omega) fun i hi ih h => by
    have h1 := ih (by omega)
    have h2 := hok i hi (by omega)
    rw [nuN_s hi, PW_s hi]
    split <;> omega
