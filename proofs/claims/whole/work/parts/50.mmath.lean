abbrev wMo (dA : Nat → ClassId) (mo : Nat) (ft : Int) (lf : Int) (hg : Int) (kk : Int) (tx : Int) (pn : Int) (tk : Int) (fm : Int) (tO : Int) (tl : Int) (mI : Int → Int) (mT : Int → Int) (mS : Int → Int) (mC : Int → Int) (mL : Int → Int) (mB : Int → Int) (mF : Int → Int) (mU : Int → Int) (mX : Int → Int) (mP : Int → Int) (mK : Int → Int) (mD : Int → Int) (mZ : Int → Int) (w_ : va_W) : va_W := (mo, .inr (7, [.int (iI ft), .int (iI lf), .ref (mo + 1), .ref (mo + 2), .ref (mo + 3), .ref (mo + 4), .ref (mo + 5), .ref (mo + 6), .int (iI hg), .int (iI kk), .int (iI tx), .ref (mo + 7), .ref (mo + 8), .ref (mo + 9), .int (iI pn), .ref (mo + 10), .int (iI tk), .int (iI fm), .int (iI tO), .ref (mo + 11), .int (iI tl), .ref (mo + 12), .ref (mo + 13)])) :: (mo + 1, .inl (dA 0, 100, .inl (arI mI))) :: (mo + 2, .inl (dA 2, 47, .inl (arI mT))) :: (mo + 3, .inl (dA 0, 47, .inl (arI mS))) :: (mo + 4, .inl (dA 0, 47, .inl (arI mC))) :: (mo + 5, .inl (dA 0, 47, .inl (arI mL))) :: (mo + 6, .inl (dA 0, 2820, .inl (arI mB))) :: (mo + 7, .inl (dA 0, 8, .inl (arI mF))) :: (mo + 8, .inl (dA 0, 8, .inl (arI mU))) :: (mo + 9, .inl (dA 0, 480, .inl (arI mX))) :: (mo + 10, .inl (dA 0, 200, .inl (arI mP))) :: (mo + 11, .inl (dA 0, 100, .inl (arI mK))) :: (mo + 12, .inl (dA 0, 1700, .inl (arI mD))) :: (mo + 13, .inl (dA 0, 5, .inl (arI mZ))) :: w_
/-! the reference's numbers: digits of number i from 340 * i on -/
def MD (D Z : Int → Int) (i N : Int) : Prop := (0 ≤ Z i ∧ Z i ≤ 340) ∧ (∀ j, 0 ≤ j → j < Z i → 0 ≤ D (340 * i + j) ∧ D (340 * i + j) ≤ 9) ∧ VL 10 (sh D (340 * i)) (Z i) = N
def MR (D Z : Int → Int) (i N : Int) : Prop := MD D Z i N ∧ (0 < Z i → D (340 * i + (Z i - 1)) ≠ 0)
theorem MD_s {D Z : Int → Int} {i N : Int} (h : MD D Z i N) (hp : 0 < Z i) (hz : D (340 * i + Z i - 1) = 0) : MD D (up Z i (Z i - 1)) i N := by
  unfold MD
  rw [up_s]
  refine ⟨by have := h.1; omega, fun j a b => h.2.1 j a (by omega), ?_⟩
  have e := VL_s (b := 10) (F := sh D (340 * i)) (i := Z i - 1) (by omega)
  rw [show Z i - 1 + 1 = Z i by omega, h.2.2, show sh D (340 * i) (Z i - 1) = 0 by unfold sh; rw [show 340 * i + (Z i - 1) = 340 * i + Z i - 1 by omega]; exact hz] at e
  omega
theorem MD_bd {D Z : Int → Int} {i N : Int} (h : MD D Z i N) : 0 ≤ N ∧ N < PW 10 (Z i) := by
  rw [← h.2.2]
  exact VL_bd (by decide) (Z i) h.1.1 (fun j a b => by have := h.2.1 j a b; show 0 ≤ D (340 * i + j) ∧ D (340 * i + j) < 10; omega)
/-- another number's digits and sizes are left alone -/
def others (D Z D1 Z1 : Int → Int) (i : Int) : Prop := (∀ p, p < 340 * i ∨ 340 * i + 340 ≤ p → D1 p = D p) ∧ ∀ j, j ≠ i → Z1 j = Z j
theorem MR_o {D Z D1 Z1 : Int → Int} {i j N : Int} (h : others D Z D1 Z1 i) (hj : j ≠ i) (hR : MR D Z j N) : MR D1 Z1 j N := by
  obtain ⟨⟨a1, a2, a3⟩, a4⟩ := hR
  have eZ := h.2 j hj
  have eD : ∀ t, 0 ≤ t → t < Z j → D1 (340 * j + t) = D (340 * j + t) := fun t x y => h.1 _ (by omega)
  unfold MR MD
  rw [eZ]
  refine ⟨⟨a1, fun t x y => by rw [eD t x y]; exact a2 t x y, ?_⟩, fun z => by rw [eD _ (by omega) (by omega)]; exact a4 z⟩
  rw [← a3]
  exact VL_c _ a1.1 (fun t x y => eD t x y)
theorem unit_e {Z D9 : Int → Int} {i pw : Int} (hp : 0 ≤ pw ∧ pw ≤ 339) (h0 : ∀ j, 0 ≤ j → j < pw → D9 (340 * i + j) = 0) : MR (up D9 (340 * i + pw) 1) (up Z i (pw + 1)) i (PW 10 pw) := by
  unfold MR MD
  rw [up_s]
  have h1 : ∀ j, 0 ≤ j → j < pw → up D9 (340 * i + pw) 1 (340 * i + j) = 0 := fun j a b => by rw [up_n (by omega)]; exact h0 j a b
  refine ⟨⟨by omega, fun j a b => ?_, ?_⟩, fun _ => by rw [show 340 * i + (pw + 1 - 1) = 340 * i + pw by omega, up_s]; omega⟩
  · rcases (show j < pw ∨ j = pw by omega) with z | z
    · rw [h1 j a z]; omega
    · rw [z, up_s]; omega
  · rw [VL_s hp.1, VL_zero (F := sh (up D9 (340 * i + pw) 1) (340 * i)) pw hp.1 (fun j a b => h1 j a b), show sh (up D9 (340 * i + pw) 1) (340 * i) pw = 1 from up_s]
    omega
theorem copy_e {D Z D9 : Int → Int} {i j N : Int} (hR : MR D Z j N) (h : ∀ t, 0 ≤ t → t < Z j → D9 (340 * i + t) = D (340 * j + t)) : MR D9 (up Z i (Z j)) i N := by
  obtain ⟨⟨a1, a2, a3⟩, a4⟩ := hR
  unfold MR MD
  rw [up_s]
  refine ⟨⟨a1, fun t x y => by rw [h t x y]; exact a2 t x y, ?_⟩, fun z => by rw [h _ (by omega) (by omega)]; exact a4 z⟩
  rw [← a3]
  exact VL_c _ a1.1 (fun t x y => h t x y)
/-! base 10: what is below, what is above -/
theorem M_top {D Z : Int → Int} {i N : Int} (h : MR D Z i N) (hp : 0 < Z i) : PW 10 (Z i - 1) ≤ N := by
  rw [← h.1.2.2]
  refine VL_top (by decide) hp (fun j a b => by have := h.1.2.1 j a b; show 0 ≤ D (340 * i + j) ∧ D (340 * i + j) < 10; omega) (h.2 hp)
/-- the size is the number of digits -/
theorem M_dl {D Z : Int → Int} {i N : Int} (h : MR D Z i N) : DL N (Z i) := ⟨h.1.1.1, (MD_bd h.1).2, fun q => M_top h q⟩
theorem M_lt {D Z : Int → Int} {i j N M : Int} (h1 : MR D Z i N) (h2 : MR D Z j M) (h : Z i < Z j) : N < M := by
  have a := (MD_bd h1.1).2
  have b := M_top h2 (by have := h1.1.1; omega)
  have c := PW_mono (b := 10) (i := Z i) (j := Z j - 1) (by decide) h1.1.1.1 (by omega)
  omega
theorem M_cmp {D Z : Int → Int} {i j N M d : Int} (h1 : MR D Z i N) (h2 : MR D Z j M) (hz : Z i = Z j) (h0 : 0 ≤ d) (hd : d < Z i) (he : ∀ t, d < t → t < Z i → D (340 * i + t) = D (340 * j + t)) (h : D (340 * i + d) < D (340 * j + d)) : N < M := by
  have a := VL_hi (b := 10) (F := sh D (340 * i)) (G := sh D (340 * j)) (i := d + 1) (by omega) (show d + 1 ≤ Z i by omega) (fun t x y => he t (by omega) y)
  rw [VL_s h0, VL_s h0, h1.1.2.2, hz, h2.1.2.2] at a
  have b1 := VL_bd (b := 10) (F := sh D (340 * i)) (by decide) d h0 (fun t x y => by have := h1.1.2.1 t x (by omega); show 0 ≤ D (340 * i + t) ∧ D (340 * i + t) < 10; omega)
  have b2 := VL_bd (b := 10) (F := sh D (340 * j)) (by decide) d h0 (fun t x y => by have := h2.1.2.1 t x (by omega); show 0 ≤ D (340 * j + t) ∧ D (340 * j + t) < 10; omega)
  have p := PW_pos (b := 10) (by decide) d
  have q := Int.mul_le_mul_of_nonneg_right (show sh D (340 * i) d + 1 ≤ sh D (340 * j) d by show D (340 * i + d) + 1 ≤ D (340 * j + d); omega) (show 0 ≤ PW 10 d by omega)
  rw [Int.add_mul] at q
  omega
theorem M_eq {D Z : Int → Int} {i j N M : Int} (h1 : MR D Z i N) (h2 : MR D Z j M) (hz : Z i = Z j) (he : ∀ t, -1 < t → t < Z i → D (340 * i + t) = D (340 * j + t)) : N = M := by
  rw [← h1.1.2.2, ← h2.1.2.2, ← hz]
  exact VL_c _ h1.1.1.1 (fun t x y => he t (by omega) y)
