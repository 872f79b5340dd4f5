/-! the reference's long division -/
theorem MR_0 {D Z : Int → Int} {i : Int} : MR D (up Z i 0) i 0 := by
  unfold MR MD
  rw [up_s]
  exact ⟨⟨by omega, fun t x y => by omega, VL_0 _ _⟩, fun q => by omega⟩
theorem MR_f {D Z D1 Z1 : Int → Int} {j N : Int} (hR : MR D Z j N) (hD : ∀ t, 0 ≤ t → t < 340 → D1 (340 * j + t) = D (340 * j + t)) (hZ : Z1 j = Z j) : MR D1 Z1 j N := by
  obtain ⟨⟨a1, a2, a3⟩, a4⟩ := hR
  unfold MR MD
  rw [hZ]
  refine ⟨⟨a1, fun t x y => by rw [hD t x (by omega)]; exact a2 t x y, ?_⟩, fun z => by rw [hD _ (by omega) (by omega)]; exact a4 z⟩
  rw [← a3]
  exact VL_c _ a1.1 (fun t x y => hD t x (by omega))
theorem M_sz {D Z : Int → Int} {i N k : Int} (h : MR D Z i N) (hN : N < PW 10 k) (hk : 0 ≤ k) : Z i ≤ k := DL_le (M_dl h) hN hk
theorem M_nn {D Z : Int → Int} {i N : Int} (h : MR D Z i N) : 0 ≤ N := (MD_bd h.1).1
theorem VL_div {b : Int} {F : Int → Int} {u N i : Int} (hb : 0 < b) (hd : ∀ j, 0 ≤ j → j < u → 0 ≤ F j ∧ F j < b) (hN : VL b F u = N) (h0 : 0 ≤ i) (h1 : i ≤ u) : VL b (fun t => F (i + t)) (u - i) = N / PW b i := by
  have e := VL_split (b := b) (F := F) h0 (u - i) (by omega)
  rw [show i + (u - i) = u by omega, hN] at e
  have g := VL_bd (b := b) (F := F) hb i h0 (fun j x y => hd j x (by omega))
  have hp := PW_pos (b := b) hb i
  rw [e, Int.add_mul_ediv_left _ _ (by omega), Int.ediv_eq_zero_of_lt g.1 g.2]
  omega
theorem VL_step {b : Int} {F : Int → Int} {n : Int} (hn : 0 ≤ n) : VL b F (n + 1) = F 0 + b * VL b (fun t => F (1 + t)) n := by
  have e := VL_split (b := b) (F := F) (i := 1) (by decide) n hn
  rw [show 1 + n = n + 1 by omega, VL_one, PW_1] at e
  exact e
theorem M_dig {D Z : Int → Int} {i N d : Int} (h : MD D Z i N) (h0 : 0 ≤ d) (hd : d < Z i) : N / PW 10 d = N / PW 10 (d + 1) * 10 + D (340 * i + d) := by
  have hb : ∀ j, 0 ≤ j → j < Z i → 0 ≤ sh D (340 * i) j ∧ sh D (340 * i) j < 10 := fun j x y => by have := h.2.1 j x y; show 0 ≤ D (340 * i + j) ∧ D (340 * i + j) < 10; omega
  rw [← VL_div (by decide) hb h.2.2 h0 (by omega), ← VL_div (by decide) hb h.2.2 (show 0 ≤ d + 1 by omega) (by omega), show Z i - d = Z i - (d + 1) + 1 by omega, VL_step (by omega)]
  have e : (fun t => sh D (340 * i) (d + (1 + t))) = fun t => sh D (340 * i) (d + 1 + t) := by funext t; congr 1; omega
  rw [e, show sh D (340 * i) (d + 0) = D (340 * i + d) by unfold sh; congr 1; omega]
  omega
def mqJ (D Z : Int → Int) (N M : Int) (D9 Z9 : Int → Int) (d : Int) : Prop := (-1 ≤ d ∧ d < Z 0) ∧ MR D9 Z9 3 (N / PW 10 (d + 1) % M) ∧ (∀ t, d < t → t < Z 0 → 0 ≤ D9 (680 + t) ∧ D9 (680 + t) ≤ 9) ∧ VL 10 (fun t => D9 (680 + (d + 1) + t)) (Z 0 - (d + 1)) = N / PW 10 (d + 1) / M ∧ (∀ p, p < 680 ∨ 1360 ≤ p → D9 p = D p) ∧ ∀ t, t ≠ 3 → Z9 t = Z t
theorem mq_0 {D Z : Int → Int} {N M : Int} (h : MR D Z 0 N) : mqJ D Z N M D (up Z 3 0) (Z 0 - 1) := by
  have hb := MD_bd h.1
  have hz := h.1.1
  have e : N / PW 10 (Z 0 - 1 + 1) = 0 := by rw [show Z 0 - 1 + 1 = Z 0 by omega]; exact Int.ediv_eq_zero_of_lt hb.1 hb.2
  unfold mqJ
  rw [e, Int.zero_emod, Int.zero_ediv]
  refine ⟨by omega, MR_0, fun t x y => by omega, ?_, fun _ _ => rfl, fun t x => up_n x⟩
  rw [show Z 0 - (Z 0 - 1 + 1) = 0 by omega, VL_0]
theorem mq_X {D Z D9 Z9 : Int → Int} {N M d : Int} (h : MR D Z 0 N) (hM : 0 < M) (hJ : mqJ D Z N M D9 Z9 d) (h0 : 0 ≤ d) : D9 d = D d ∧ (0 ≤ D d ∧ D d ≤ 9) ∧ 0 ≤ N / PW 10 (d + 1) % M * 10 + D d ∧ N / PW 10 (d + 1) % M * 10 + D d < 10 * M := by
  have a := hJ.1
  have c := h.1.2.1 d h0 a.2
  rw [show 340 * 0 + d = d by omega] at c
  have r0 := Int.emod_nonneg (N / PW 10 (d + 1)) (show M ≠ 0 by omega)
  have r1 := Int.emod_lt_of_pos (N / PW 10 (d + 1)) hM
  have hz := h.1.1
  exact ⟨hJ.2.2.2.2.1 d (by omega), c, by omega, by omega⟩
theorem mq_n {X M n : Int} (hM : 0 < M) (hX : X < 10 * M) (h : 0 ≤ X - n * M) : n ≤ 9 := by
  apply Decidable.byContradiction
  intro q
  have := Int.mul_le_mul_of_nonneg_right (show 10 ≤ n by omega) (show 0 ≤ M by omega)
  omega
theorem mq_p {A' A M n k : Int} (hM : 0 < M) (e1 : A' = A * 10 + k) (h0 : 0 ≤ A % M * 10 + k - n * M) (h1 : A % M * 10 + k - n * M < M) : A' / M = A / M * 10 + n ∧ A' % M = A % M * 10 + k - n * M := by
  have e2 := Int.mul_ediv_add_emod A M
  have e3 : A' = (A % M * 10 + k - n * M) + M * (A / M * 10 + n) := by
    rw [e1]
    grind
  constructor
  · rw [e3, Int.add_mul_ediv_left _ _ (by omega), Int.ediv_eq_zero_of_lt h0 h1]
    omega
  · rw [e3, Int.add_mul_emod_self_left, Int.emod_eq_of_lt h0 h1]
theorem mq_s {D Z D9 Z9 D8 Z8 : Int → Int} {N M d n : Int} (h : MR D Z 0 N) (hM : 0 < M) (hJ : mqJ D Z N M D9 Z9 d) (h0 : 0 ≤ d) (hn : 0 ≤ n) (hR : MR D8 Z8 3 (N / PW 10 (d + 1) % M * 10 + D d - n * M)) (hlt : N / PW 10 (d + 1) % M * 10 + D d - n * M < M) (hD : ∀ p, p < 1020 ∨ 1360 ≤ p → D8 p = D9 p) (hZ : ∀ t, t ≠ 3 → Z8 t = Z9 t) : mqJ D Z N M (up D8 (680 + d) n) Z8 (d - 1) := by
  obtain ⟨x1, x2, x3, x4⟩ := mq_X h hM hJ h0
  have hn9 : n ≤ 9 := mq_n hM x4 (M_nn hR)
  have hnn := M_nn hR
  obtain ⟨a1, a2, a3, a4, a5, a6⟩ := hJ
  have hz := h.1.1
  have e1 := M_dig h.1 h0 a1.2
  rw [show 340 * 0 + d = d by omega] at e1
  obtain ⟨e4, e5⟩ := mq_p hM e1 hnn hlt
  unfold mqJ
  rw [show d - 1 + 1 = d by omega, e4, e5]
  refine ⟨by omega, ?_, fun t x y => ?_, ?_, fun p x => by rw [up_n (by omega), hD p (by omega)]; exact a5 p x, fun t x => by rw [hZ t x]; exact a6 t x⟩
  · exact MR_f hR (fun t x y => by rw [up_n (by omega)]) rfl
  · rcases (show t = d ∨ d < t by omega) with q | q
    · rw [q, up_s]; omega
    · rw [up_n (by omega), hD _ (by omega)]; exact a3 t q y
  · rw [show Z 0 - d = Z 0 - (d + 1) + 1 by omega, VL_step (by omega), show up D8 (680 + d) n (680 + d + 0) = n by rw [Int.add_zero]; exact up_s]
    rw [VL_c (G := fun t => D9 (680 + (d + 1) + t)) _ (by omega) (fun t x y => by show up D8 (680 + d) n (680 + d + (1 + t)) = D9 (680 + (d + 1) + t); rw [up_n (by omega), hD _ (by omega)]; congr 1; omega), a4]
    omega
theorem mq_e {D Z D9 Z9 : Int → Int} {N M d : Int} (h : MR D Z 0 N) (hJ : mqJ D Z N M D9 Z9 d) (hd : d < 0) : MD D9 (up Z9 2 (Z9 0)) 2 (N / M) ∧ MR D9 (up Z9 2 (Z9 0)) 3 (N % M) := by
  obtain ⟨a1, a2, a3, a4, a5, a6⟩ := hJ
  have hz := h.1.1
  have ed : d = -1 := by omega
  subst ed
  have e0 : N / PW 10 (-1 + 1) = N := by rw [show (-1 : Int) + 1 = 0 from rfl, PW_0, Int.ediv_one]
  rw [e0] at a2 a4
  refine ⟨?_, MR_f a2 (fun _ _ _ => rfl) (up_n (by omega))⟩
  unfold MD
  rw [up_s, a6 0 (by omega)]
  refine ⟨hz, fun t x y => by have := a3 t (by omega) y; rw [show 340 * 2 + t = 680 + t by omega]; exact this, ?_⟩
  rw [show Z 0 - (-1 + 1) = Z 0 by omega] at a4
  rw [← a4]
  exact VL_c _ hz.1 (fun t x y => by show D9 (340 * 2 + t) = D9 (680 + (-1 + 1) + t); rfl)
