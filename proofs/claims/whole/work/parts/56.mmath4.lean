theorem VL_zeb {b : Int} {F : Int → Int} {u n : Int} (h0 : 0 ≤ u) (h : u ≤ n) : VL b (ze F u) n = VL b F u := by
  have e := VL_split (b := b) (F := ze F u) h0 (n - u) (by omega)
  rw [show u + (n - u) = n by omega, VL_zero (n - u) (by omega) (fun j a b => ze_out (by omega)), VL_c (G := F) u h0 (fun j a b => ze_in b)] at e
  omega
def mdJ (D : Int → Int) (i : Int) (Y : Int → Int) (D9 : Int → Int) (bw d : Int) : Prop := 0 ≤ d ∧ 0 ≤ bw ∧ bw ≤ 1 ∧ (∀ t, 0 ≤ t → t < d → 0 ≤ D9 (340 * i + t) ∧ D9 (340 * i + t) ≤ 9) ∧ (∀ p, p < 340 * i ∨ 340 * i + d ≤ p → D9 p = D p) ∧ VL 10 (sh D9 (340 * i)) d - bw * PW 10 d = VL 10 (sh D (340 * i)) d - VL 10 Y d
theorem md_0 {D Y : Int → Int} {i : Int} : mdJ D i Y D 0 0 := ⟨by omega, by omega, by omega, fun t a b => by omega, fun _ _ => rfl, by rw [VL_0, VL_0]; omega⟩
theorem md_s {D Y D9 : Int → Int} {i bw d y k w : Int} (hJ : mdJ D i Y D9 bw d) (hd : 0 ≤ D (340 * i + d) ∧ D (340 * i + d) ≤ 9) (hy : y = Y d) (by_ : 0 ≤ y ∧ y ≤ 9) (hk : (k = 1 ∧ D9 (340 * i + d) - bw - y < 0 ∧ w = D9 (340 * i + d) - bw - y + 10) ∨ (k = 0 ∧ 0 ≤ D9 (340 * i + d) - bw - y ∧ w = D9 (340 * i + d) - bw - y)) : mdJ D i Y (up D9 (340 * i + d) w) k (d + 1) := by
  obtain ⟨a1, a2, a3, a4, a5, a6⟩ := hJ
  have e5 := a5 (340 * i + d) (by omega)
  refine ⟨by omega, by omega, by omega, fun t b1 b2 => ?_, fun p b1 => ?_, ?_⟩
  · by_cases q : t = d
    · rw [q, up_s]; omega
    · rw [up_n (by omega)]; exact a4 t b1 (by omega)
  · rw [up_n (by omega)]; exact a5 p (by omega)
  · rw [sh_up, VL_s a1, VL_s a1, VL_s a1, VL_up a1 (by omega), up_s, PW_s a1, ← hy]
    have e6 : sh D (340 * i) d = D9 (340 * i + d) := e5.symm
    have e7 : w - k * 10 = D9 (340 * i + d) - bw - y := by omega
    have e8 : (w - k * 10) * PW 10 d = (D9 (340 * i + d) - bw - y) * PW 10 d := by rw [e7]
    grind
theorem md_e {D D9 Z : Int → Int} {i j bw d N M : Int} (hR : MR D Z i N) (hR2 : MR D Z j M) (hJ : mdJ D i (ze (sh D (340 * j)) (Z j)) D9 bw d) (hd : d = Z i) (hm : M ≤ N) : MD D9 Z i (N - M) := by
  subst hd
  have hv : Z j ≤ Z i := by
    apply Decidable.byContradiction
    intro q
    have := M_lt hR hR2 (by omega)
    omega
  obtain ⟨a1, a2, a3, a4, a5, a6⟩ := hJ
  rw [VL_zeb hR2.1.1.1 hv, hR.1.2.2, hR2.1.2.2] at a6
  have g := VL_bd (b := 10) (F := sh D9 (340 * i)) (by decide) (Z i) a1 (fun t x y => by have := a4 t x y; show 0 ≤ D9 (340 * i + t) ∧ D9 (340 * i + t) < 10; omega)
  have hb : bw = 0 := by
    apply Decidable.byContradiction
    intro q
    rw [show bw = 1 by omega] at a6
    omega
  rw [hb] at a6
  exact ⟨hR.1.1, a4, by omega⟩
