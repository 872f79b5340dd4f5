/-! the reference's root: two digits at a time -/
theorem isq_le {s A : Int} (h : isq s A) : s ≤ A ∧ 0 ≤ A := by
  obtain ⟨a, b, c⟩ := h
  have h1 : 0 ≤ s * s := Int.mul_nonneg a a
  refine ⟨?_, by omega⟩
  rcases (show s = 0 ∨ 1 ≤ s by omega) with q | q
  · omega
  · have := Int.mul_le_mul_of_nonneg_right q a
    omega
theorem rq_n {s n w A A2 hi lo : Int} (hs : isq s A) (e : A2 = (A * 10 + hi) * 10 + lo) (h1 : 0 ≤ hi ∧ hi ≤ 9) (h2 : 0 ≤ lo ∧ lo ≤ 9) (hw : w = 10 * s + n) (hn : 0 ≤ A2 - w * w) : n ≤ 9 := by
  obtain ⟨a, b, c⟩ := hs
  apply Decidable.byContradiction
  intro q
  have h3 := Int.mul_le_mul (show 10 * (s + 1) ≤ w by omega) (show 10 * (s + 1) ≤ w by omega) (by omega) (by omega)
  have e4 : 10 * (s + 1) * (10 * (s + 1)) = 100 * ((s + 1) * (s + 1)) := by grind
  omega
theorem div_le {N p : Int} (h : 0 ≤ N) : N / PW 10 p ≤ N := Int.ediv_le_self _ h
def rdJ (D5 : Int → Int) (N K : Int) : Prop := ∀ t, 0 ≤ t → t < 2 * K → (0 ≤ D5 t ∧ D5 t ≤ 9) ∧ N / PW 10 t = N / PW 10 (t + 1) * 10 + D5 t
theorem rd_0 {D Z : Int → Int} {N : Int} (h : MR D Z 0 N) (he : Z 0 % 2 ≠ 1) : rdJ D N ((Z 0 + 1) / 2) := fun t x y => by
  have hz := h.1.1
  have e1 := M_dig h.1 x (show t < Z 0 by omega)
  have e2 := h.1.2.1 t x (by omega)
  rw [show 340 * 0 + t = t by omega] at e1 e2
  exact ⟨e2, e1⟩
theorem rd_1 {D Z : Int → Int} {N : Int} (h : MR D Z 0 N) : rdJ (up D (Z 0) 0) N ((Z 0 + 1) / 2) := fun t x y => by
  have hz := h.1.1
  rcases (show t < Z 0 ∨ t = Z 0 by omega) with q | q
  · have e1 := M_dig h.1 x q
    have e2 := h.1.2.1 t x q
    rw [show 340 * 0 + t = t by omega] at e1 e2
    rw [up_n (by omega)]
    exact ⟨e2, e1⟩
  · have b := MD_bd h.1
    have c := PW_mono (b := 10) (i := Z 0) (j := Z 0 + 1) (by decide) hz.1 (by omega)
    rw [q, up_s, Int.ediv_eq_zero_of_lt b.1 b.2, Int.ediv_eq_zero_of_lt b.1 (by omega)]
    omega
def rqJ (D5 : Int → Int) (N K : Int) (D9 Z9 : Int → Int) (d s : Int) : Prop := (-1 ≤ d ∧ d < K) ∧ MR D9 Z9 2 s ∧ isq s (N / PW 10 (2 * (d + 1))) ∧ MR D9 Z9 3 (N / PW 10 (2 * (d + 1)) - s * s) ∧ ∀ t, 0 ≤ t → t < 340 → D9 t = D5 t
theorem rq_0 {D5 Z : Int → Int} {N K : Int} (hK : 0 ≤ K) (h0 : 0 ≤ N) (h : N < PW 10 (2 * K)) (h2 : Z 2 = 0) (h3 : Z 3 = 0) : rqJ D5 N K D5 Z (K - 1) 0 := by
  have e : N / PW 10 (2 * (K - 1 + 1)) = 0 := by rw [show K - 1 + 1 = K by omega]; exact Int.ediv_eq_zero_of_lt h0 h
  have z : ∀ i, Z i = 0 → MR D5 Z i 0 := fun i hi => by
    have := MR_0 (D := D5) (Z := Z) (i := i)
    have eu : up Z i 0 = Z := by funext j; by_cases q : j = i; rw [q, up_s, hi]; exact up_n q
    rwa [eu] at this
  unfold rqJ
  rw [e]
  exact ⟨by omega, z 2 h2, ⟨by omega, by omega, by omega⟩, z 3 h3, fun _ _ _ => rfl⟩
theorem rq_b {D5 D9 Z9 : Int → Int} {N K d s : Int} (hJ : rqJ D5 N K D9 Z9 d s) (hR : rdJ D5 N K) (h0 : 0 ≤ d) (hN0 : 0 ≤ N) (hN : N < PW 10 200) (hK : K ≤ 170) : D9 (2 * d + 1) = D5 (2 * d + 1) ∧ D9 (2 * d) = D5 (2 * d) ∧ (0 ≤ D5 (2 * d + 1) ∧ D5 (2 * d + 1) ≤ 9) ∧ (0 ≤ D5 (2 * d) ∧ D5 (2 * d) ≤ 9) ∧ N / PW 10 (2 * d) = (N / PW 10 (2 * (d + 1)) * 10 + D5 (2 * d + 1)) * 10 + D5 (2 * d) ∧ Z9 2 ≤ 200 ∧ Z9 3 ≤ 200 ∧ (0 ≤ s ∧ s ≤ N) ∧ N / PW 10 (2 * (d + 1)) * 10 + D5 (2 * d + 1) ≤ N ∧ 0 ≤ s * s := by
  obtain ⟨a1, a2, a3, a4, a5⟩ := hJ
  obtain ⟨b1, b2⟩ := hR (2 * d + 1) (by omega) (by omega)
  obtain ⟨c1, c2⟩ := hR (2 * d) (by omega) (by omega)
  rw [show 2 * d + 1 + 1 = 2 * (d + 1) by omega] at b2
  have i := isq_le a3
  have j := div_le (p := 2 * (d + 1)) hN0
  have k := div_le (p := 2 * d + 1) hN0
  have ss := Int.mul_nonneg a3.1 a3.1
  exact ⟨a5 _ (by omega) (by omega), a5 _ (by omega) (by omega), b1, c1, by rw [c2, b2], M_sz a2 (by omega) (by decide), M_sz a4 (by omega) (by decide), ⟨a3.1, by omega⟩, by omega, ss⟩
def riJ (D5 : Int → Int) (A2 s : Int) (D8 Z8 : Int → Int) (w : Int) : Prop := MR D8 Z8 3 (A2 - w * w) ∧ MR D8 Z8 1 (2 * w + 1) ∧ MR D8 Z8 2 s ∧ MR D8 Z8 4 2 ∧ ∀ t, 0 ≤ t → t < 340 → D8 t = D5 t
theorem ri_s {D5 D8 Z8 Da Za Db Zb : Int → Int} {A2 s w : Int} (hI : riJ D5 A2 s D8 Z8 w) (h3 : MR Da Za 3 (A2 - w * w - (2 * w + 1))) (o3 : others D8 Z8 Da Za 3) (h1 : MR Db Zb 1 (2 * w + 1 + 2)) (o1 : others Da Za Db Zb 1) : riJ D5 A2 s Db Zb (w + 1) := by
  obtain ⟨a1, a2, a3, a4, a5⟩ := hI
  refine ⟨?_, ?_, MR_o o1 (by decide) (MR_o o3 (by decide) a3), MR_o o1 (by decide) (MR_o o3 (by decide) a4), fun t x y => by rw [o1.1 t (by omega), o3.1 t (by omega)]; exact a5 t x y⟩
  · have := MR_o o1 (by decide) h3
    rwa [show A2 - w * w - (2 * w + 1) = A2 - (w + 1) * (w + 1) by grind] at this
  · rwa [show 2 * w + 1 + 2 = 2 * (w + 1) + 1 by omega] at h1
theorem ri_b {D5 D8 Z8 : Int → Int} {A2 s w N : Int} (hI : riJ D5 A2 s D8 Z8 w) (hA : A2 ≤ N) (hN : N < PW 10 200) (hw : 0 ≤ w) : Z8 1 ≤ 201 ∧ Z8 4 ≤ 1 ∧ Z8 2 ≤ 200 ∨ PW 10 200 ≤ s := by
  obtain ⟨a1, a2, a3, a4, a5⟩ := hI
  have n := M_nn a1
  have w2 : w ≤ w * w := by
    rcases (show w = 0 ∨ 1 ≤ w by omega) with q | q
    · subst q; decide
    · have := Int.mul_le_mul_of_nonneg_right q hw
      omega
  have e := PW_s (b := 10) (i := 200) (by decide)
  rw [show (200 : Int) + 1 = 201 from rfl] at e
  have p := PW_pos (b := 10) (by decide) 200
  have p1 : PW 10 1 = 10 := PW_1 10
  rcases (show s < PW 10 200 ∨ PW 10 200 ≤ s by omega) with q | q
  · exact Or.inl ⟨M_sz a2 (by omega) (by decide), M_sz a4 (by omega) (by decide), M_sz a3 q (by decide)⟩
  · exact Or.inr q
theorem two_e {D Z : Int → Int} (h : MR D Z 4 (PW 10 0)) : MR (up D 1360 2) Z 4 2 := by
  have e : Z 4 = 1 := DL_u (M_dl h) ⟨by decide, by rw [PW_0, PW_1]; decide, fun _ => by rw [show (1 : Int) - 1 = 0 from rfl]; exact Int.le_refl _⟩
  unfold MR MD
  rw [e]
  refine ⟨⟨by omega, fun j x y => ?_, ?_⟩, fun _ => ?_⟩
  · rw [show j = 0 by omega]; show 0 ≤ up D 1360 2 1360 ∧ up D 1360 2 1360 ≤ 9; rw [up_s]; omega
  · rw [VL_one]; exact up_s
  · show up D 1360 2 1360 ≠ 0; rw [up_s]; decide
theorem ri_0 {D5 D Z : Int → Int} {A A2 hi lo s : Int} (e : A2 = (A * 10 + hi) * 10 + lo) (h3 : MR D Z 3 (((A - s * s) * 10 + hi) * 10 + lo)) (h1 : MR D Z 1 ((s + s) * 10 + 1)) (h2 : MR D Z 2 s) (h4 : MR D Z 4 2) (hD : ∀ t, 0 ≤ t → t < 340 → D t = D5 t) : riJ D5 A2 s D Z (10 * s) := by
  refine ⟨?_, ?_, h2, h4, hD⟩
  · rwa [show ((A - s * s) * 10 + hi) * 10 + lo = A2 - 10 * s * (10 * s) by rw [e]; grind] at h3
  · rwa [show (s + s) * 10 + 1 = 2 * (10 * s) + 1 by omega] at h1
theorem rq_s {D5 D9 Z9 D8 Z8 D1 Z1 : Int → Int} {N K d s n w : Int} (hJ : rqJ D5 N K D9 Z9 d s) (hI : riJ D5 (N / PW 10 (2 * d)) s D8 Z8 w) (h0 : 0 ≤ d) (hn : 0 ≤ n) (hw : w = 10 * s + n) (hlt : N / PW 10 (2 * d) - w * w < 2 * w + 1) (h2 : MR D1 Z1 2 (s * 10 + n)) (o2 : others D8 Z8 D1 Z1 2) : rqJ D5 N K D1 Z1 (d - 1) w := by
  obtain ⟨a1, a2, a3, a4, a5⟩ := hJ
  obtain ⟨b1, b2, b3, b4, b5⟩ := hI
  have nn := M_nn b1
  unfold rqJ
  rw [show d - 1 + 1 = d by omega]
  refine ⟨by omega, by rw [hw, show 10 * s + n = s * 10 + n by omega]; exact h2, ⟨by have := a3.1; omega, by omega, ?_⟩, MR_o o2 (by decide) b1, fun t x y => by rw [o2.1 t (by omega)]; exact b5 t x y⟩
  have : (w + 1) * (w + 1) = w * w + (2 * w + 1) := by grind
  omega
theorem rq_e {D5 D9 Z9 : Int → Int} {N K d s : Int} (hJ : rqJ D5 N K D9 Z9 d s) (hd : d < 0) : isq s N := by
  have h := hJ.2.2.1
  have h1 := hJ.1
  rwa [show 2 * (d + 1) = 0 by omega, PW_0, Int.ediv_one] at h
