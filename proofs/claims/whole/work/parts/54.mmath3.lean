theorem app_e {D D8 Z : Int → Int} {i mn N : Int} (hM : MR D Z i N) (hm : 0 ≤ mn) (hb : Z i + mn ≤ 340) (h0 : ∀ t, 0 ≤ t → t < mn → 0 ≤ D8 (340 * i + t) ∧ D8 (340 * i + t) ≤ 9) (h1 : ∀ t, 0 ≤ t → t < Z i → D8 (340 * i + mn + t) = D (340 * i + t)) : MD D8 (up Z i (Z i + mn)) i (N * PW 10 mn + VL 10 (sh D8 (340 * i)) mn) := by
  obtain ⟨⟨a1, a2, a3⟩, a4⟩ := hM
  unfold MD
  rw [up_s]
  refine ⟨by omega, fun j x y => ?_, ?_⟩
  · rcases (show j < mn ∨ mn ≤ j by omega) with q | q
    · exact h0 j x q
    · have := h1 (j - mn) (by omega) (by omega)
      rw [show 340 * i + mn + (j - mn) = 340 * i + j by omega] at this
      rw [this]
      exact a2 _ (by omega) (by omega)
  · rw [show Z i + mn = mn + Z i by omega, VL_split hm _ a1.1, VL_c (G := sh D (340 * i)) (Z i) a1.1 (fun j x y => by show D8 (340 * i + (mn + j)) = D (340 * i + j); rw [← h1 j x y]; congr 1; omega), a3, Int.mul_comm (PW 10 mn)]
    omega
theorem app_1 {D D8 Z : Int → Int} {i N v : Int} (hM : MR D Z i N) (hb : Z i + 1 ≤ 340) (hv : 0 ≤ v ∧ v ≤ 9) (h0 : ∀ t, 0 ≤ t → t < 1 → D8 (340 * i + t) = v) (h1 : ∀ t, 0 ≤ t → t < Z i → D8 (340 * i + 1 + t) = D (340 * i + t)) : MD D8 (up Z i (Z i + 1)) i (N * 10 + v) := by
  have := app_e hM (by decide) hb (fun t x y => by rw [h0 t x y]; exact hv) h1
  rw [PW_1, VL_one, show sh D8 (340 * i) 0 = v from h0 0 (by decide) (by decide)] at this
  exact this
theorem app_n {D D8 Z : Int → Int} {i mn N : Int} (hM : MR D Z i N) (hm : 0 ≤ mn) (hb : Z i + mn ≤ 340) (h0 : ∀ t, 0 ≤ t → t < mn → D8 (340 * i + t) = 0) (h1 : ∀ t, 0 ≤ t → t < Z i → D8 (340 * i + mn + t) = D (340 * i + t)) : MD D8 (up Z i (Z i + mn)) i (N * PW 10 mn) := by
  have := app_e hM hm hb (fun t x y => by rw [h0 t x y]; omega) h1
  rw [VL_zero (F := sh D8 (340 * i)) mn hm (fun j x y => h0 j x y), Int.add_zero] at this
  exact this
