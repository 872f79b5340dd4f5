/-- a thing's own digits -/
def TD (B L : Int → Int) (th M : Int) : Prop := (0 ≤ L th ∧ L th ≤ 60) ∧ (∀ j, 0 ≤ j → j < L th → 0 ≤ B (60 * th + j) ∧ B (60 * th + j) ≤ 9) ∧ VL 10 (sh B (60 * th)) (L th) = M
theorem load_e {D9 Z B L : Int → Int} {i th z M : Int} (hT : TD B L th M) (hz : 0 ≤ z ∧ z ≤ 200) (h0 : ∀ j, 0 ≤ j → j < z → D9 (340 * i + j) = 0) (h1 : ∀ j, 0 ≤ j → j < L th → D9 (340 * i + z + j) = B (60 * th + j)) : MD D9 (up Z i (z + L th)) i (M * PW 10 z) := by
  obtain ⟨a1, a2, a3⟩ := hT
  unfold MD
  rw [up_s]
  refine ⟨by omega, fun j x y => ?_, ?_⟩
  · rcases (show j < z ∨ z ≤ j by omega) with q | q
    · rw [h0 j x q]; omega
    · have := h1 (j - z) (by omega) (by omega)
      rw [show 340 * i + z + (j - z) = 340 * i + j by omega] at this
      rw [this]
      exact a2 _ (by omega) (by omega)
  · rw [VL_split hz.1 _ a1.1, VL_zero (F := sh D9 (340 * i)) z hz.1 (fun j x y => h0 j x y), VL_c (G := sh B (60 * th)) (L th) a1.1 (fun j x y => by show D9 (340 * i + (z + j)) = B (60 * th + j); rw [← h1 j x y]; congr 1; omega), a3, Int.mul_comm]
    omega
theorem mcut_e {D D9 Z : Int → Int} {i n N : Int} (hM : MR D Z i N) (hn : 0 ≤ n) (hlt : n < Z i) (h : ∀ t, 0 ≤ t → t < Z i - n → D9 (340 * i + t) = D (340 * i + t + n)) : MR D9 (up Z i (Z i - n)) i (N / PW 10 n) := by
  obtain ⟨⟨a1, a2, a3⟩, a4⟩ := hM
  have e1 := VL_split (b := 10) (F := sh D (340 * i)) hn (Z i - n) (by omega)
  rw [show n + (Z i - n) = Z i by omega, a3] at e1
  have e2 := VL_bd (b := 10) (F := sh D (340 * i)) (by decide) n hn (fun j x y => by have := a2 j x (by omega); show 0 ≤ D (340 * i + j) ∧ D (340 * i + j) < 10; omega)
  have hp := PW_pos (b := 10) (by decide) n
  have e3 : N / PW 10 n = VL 10 (fun t => sh D (340 * i) (n + t)) (Z i - n) := by
    rw [e1, Int.add_mul_ediv_left _ _ (by omega), Int.ediv_eq_zero_of_lt e2.1 e2.2]
    omega
  unfold MR MD
  rw [up_s]
  refine ⟨⟨by omega, fun t x y => ?_, ?_⟩, fun q => ?_⟩
  · rw [h t x y]
    have := a2 (t + n) (by omega) (by omega)
    rwa [show 340 * i + (t + n) = 340 * i + t + n by omega] at this
  · rw [e3]
    exact VL_c _ (by omega) (fun t x y => by show D9 (340 * i + t) = D (340 * i + (n + t)); rw [h t x y]; congr 1; omega)
  · rw [h _ (by omega) (by omega), show 340 * i + (Z i - n - 1) + n = 340 * i + (Z i - 1) by omega]
    exact a4 (by omega)
theorem mcut_0 {D D9 Z : Int → Int} {i n N : Int} (hM : MR D Z i N) (hle : Z i ≤ n) : MR D9 (up Z i 0) i (N / PW 10 n) := by
  have b := MD_bd hM.1
  have c := PW_mono (b := 10) (i := Z i) (j := n) (by decide) hM.1.1.1 hle
  rw [Int.ediv_eq_zero_of_lt b.1 (by omega)]
  unfold MR MD
  rw [up_s]
  exact ⟨⟨by omega, fun t x y => by omega, VL_0 _ _⟩, fun q => by omega⟩
