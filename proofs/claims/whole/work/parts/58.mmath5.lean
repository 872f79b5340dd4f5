def miJ (D : Int → Int) (i : Int) (X Y : Int → Int) (D9 : Int → Int) (cy d : Int) : Prop := 0 ≤ d ∧ 0 ≤ cy ∧ cy ≤ 1 ∧ (∀ t, 0 ≤ t → t < d → 0 ≤ D9 (340 * i + t) ∧ D9 (340 * i + t) ≤ 9) ∧ (∀ p, p < 340 * i ∨ 340 * i + d ≤ p → D9 p = D p) ∧ VL 10 (sh D9 (340 * i)) d + cy * PW 10 d = VL 10 X d + VL 10 Y d
theorem mi_0 {D X Y : Int → Int} {i : Int} : miJ D i X Y D 0 0 := ⟨by omega, by omega, by omega, fun t a b => by omega, fun _ _ => rfl, by rw [VL_0, VL_0, VL_0]; omega⟩
theorem mi_s {D X Y D9 : Int → Int} {i cy d x y sm : Int} (hJ : miJ D i X Y D9 cy d) (hx : x = X d) (hy : y = Y d) (bx : 0 ≤ x ∧ x ≤ 9) (by_ : 0 ≤ y ∧ y ≤ 9) (hs : sm = cy + x + y) : miJ D i X Y (up D9 (340 * i + d) (sm % 10)) (sm / 10) (d + 1) := by
  obtain ⟨a1, a2, a3, a4, a5, a6⟩ := hJ
  refine ⟨by omega, by omega, by omega, fun t b1 b2 => ?_, fun p b1 => ?_, ?_⟩
  · by_cases q : t = d
    · rw [q, up_s]; omega
    · rw [up_n (by omega)]; exact a4 t b1 (by omega)
  · rw [up_n (by omega)]; exact a5 p (by omega)
  · rw [sh_up, VL_s a1, VL_s a1, VL_s a1, VL_up a1 (by omega), up_s, PW_s a1, ← hx, ← hy]
    have e7 : sm / 10 * 10 + sm % 10 = cy + x + y := by omega
    have e8 : (sm / 10 * 10 + sm % 10) * PW 10 d = (cy + x + y) * PW 10 d := by rw [e7]
    grind
theorem mi_e {D D9 Z : Int → Int} {i j cy d N M : Int} (hR : MR D Z i N) (hR2 : MR D Z j M) (hJ : miJ D i (ze (sh D (340 * i)) (Z i)) (ze (sh D (340 * j)) (Z j)) D9 cy d) (h1 : Z i ≤ d) (h2 : Z j ≤ d) (hd : d ≤ 340) (hc : cy ≤ 0) : MD D9 (up Z i d) i (N + M) := by
  obtain ⟨a1, a2, a3, a4, a5, a6⟩ := hJ
  rw [VL_zeb hR.1.1.1 h1, VL_zeb hR2.1.1.1 h2, hR.1.2.2, hR2.1.2.2, show cy = 0 by omega] at a6
  unfold MD
  rw [up_s]
  exact ⟨by omega, a4, by omega⟩
