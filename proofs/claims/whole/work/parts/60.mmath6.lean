def mmJ (D : Int → Int) (i : Int) (P Q : Int → Int) (L zy M : Int) (D9 : Int → Int) (d e cy : Int) : Prop := 0 ≤ d ∧ 0 ≤ e ∧ 0 ≤ cy ∧ cy ≤ 9 ∧ (∀ t, 0 ≤ t → t < L → 0 ≤ D9 (340 * i + t) ∧ D9 (340 * i + t) ≤ 9) ∧ (∀ t, d + zy ≤ t → d + e ≤ t → t < L → D9 (340 * i + t) = 0) ∧ (∀ p, p < 340 * i ∨ 340 * i + 340 ≤ p → D9 p = D p) ∧ VL 10 (sh D9 (340 * i)) L + cy * PW 10 (d + e) = VL 10 P d * M + P d * PW 10 d * VL 10 (ze Q zy) e
theorem mm_0 {D D9 P Q : Int → Int} {i L zy M : Int} (hL : 0 ≤ L) (hz : ∀ t, 0 ≤ t → t < L → D9 (340 * i + t) = 0) (ho : ∀ p, p < 340 * i ∨ 340 * i + 340 ≤ p → D9 p = D p) (hy : 0 ≤ zy) : mmJ D i P Q L zy M D9 0 0 0 :=
  ⟨by omega, by omega, by omega, by omega, fun t a b => by rw [hz t a b]; omega, fun t a b c => hz t (by omega) c, ho, by rw [VL_zero (F := sh D9 (340 * i)) L hL (fun t a b => hz t a b), VL_0, VL_0]; omega⟩
theorem mm_s {D D9 P Q : Int → Int} {i L zy M d e cy v w : Int} (hJ : mmJ D i P Q L zy M D9 d e cy) (hk : d + e < L) (hL : L ≤ 340) (hp : 0 ≤ P d ∧ P d ≤ 9) (hq : 0 ≤ ze Q zy e ∧ ze Q zy e ≤ 9) (hv : v = D9 (340 * i + d + e) + cy + w) (hw : w = P d * ze Q zy e) : mmJ D i P Q L zy M (up D9 (340 * i + d + e) (v % 10)) d (e + 1) (v / 10) ∧ 0 ≤ v ∧ v ≤ 99 := by
  obtain ⟨a1, a2, a3, a4, a5, a6, a7, a8⟩ := hJ
  have b1 := a5 (d + e) (by omega) hk
  rw [show 340 * i + (d + e) = 340 * i + d + e by omega] at b1
  have b2 := Int.mul_nonneg hp.1 hq.1
  have b3 := Int.mul_le_mul_of_nonneg_right hp.2 hq.1
  have b4 : 0 ≤ v ∧ v ≤ 99 := by omega
  refine ⟨⟨a1, by omega, by omega, by omega, fun t x y => ?_, fun t x y z => ?_, fun p x => ?_, ?_⟩, b4⟩
  · by_cases q : t = d + e
    · rw [q, show 340 * i + (d + e) = 340 * i + d + e by omega, up_s]; omega
    · rw [up_n (by omega)]; exact a5 t x y
  · rw [up_n (by omega)]; exact a6 t x (by omega) z
  · rw [up_n (by omega)]; exact a7 p x
  · rw [show 340 * i + d + e = 340 * i + (d + e) by omega, sh_up, VL_upd (by omega) hk, show d + (e + 1) = d + e + 1 by omega, PW_s (by omega), VL_s a2]
    have c1 : sh D9 (340 * i) (d + e) = D9 (340 * i + d + e) := by unfold sh; congr 1; omega
    have c2 : v / 10 * 10 + v % 10 = D9 (340 * i + d + e) + cy + P d * ze Q zy e := by omega
    have c3 : (v / 10 * 10 + v % 10) * PW 10 (d + e) = (D9 (340 * i + d + e) + cy + P d * ze Q zy e) * PW 10 (d + e) := by rw [c2]
    have c4 := PW_add (b := 10) a1 a2
    rw [c1]
    grind
theorem mm_n {D D9 P Q : Int → Int} {i L zy M d e cy : Int} (hJ : mmJ D i P Q L zy M D9 d e cy) (hy : 0 ≤ zy) (he : zy ≤ e) (he2 : e ≤ zy + 1) (hc : cy ≤ 0) (hQ : VL 10 Q zy = M) : mmJ D i P Q L zy M D9 (d + 1) 0 0 := by
  obtain ⟨a1, a2, a3, a4, a5, a6, a7, a8⟩ := hJ
  refine ⟨by omega, by omega, by omega, by omega, a5, fun t x y z => a6 t (by omega) (by omega) z, a7, ?_⟩
  rw [VL_zeb hy he, hQ, show cy = 0 by omega] at a8
  rw [VL_s a1, VL_0]
  grind
theorem mm_e {D D9 P Q Z : Int → Int} {i L zy M N d : Int} (hJ : mmJ D i P Q L zy M D9 d 0 0) (hP : VL 10 P d = N) (hL : 0 ≤ L ∧ L ≤ 340) : MD D9 (up Z i L) i (N * M) := by
  obtain ⟨a1, a2, a3, a4, a5, a6, a7, a8⟩ := hJ
  rw [hP, VL_0] at a8
  unfold MD
  rw [up_s]
  exact ⟨hL, a5, by omega⟩
