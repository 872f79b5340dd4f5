/-! long division -/
def gmP (first sc ld th q : Int) : Prop := q * (first * 1000000000 + sc) ≤ ld * 1000000000 + th ∧ q * first ≤ ld ∧ 0 ≤ q ∧ q < 1000000000 ∧ ld < 1000000000 * first + 1000000000 ∧ ∀ g, 0 ≤ g → g < 1000000000 → g * (first * 1000000000 + sc) ≤ ld * 1000000000 + th → g ≤ q + 1
theorem gm_pure {M R first sc ld th W m0 r0 k : Int} (hk : 0 < k) (hW : 0 < W) (hm : 0 ≤ m0 ∧ m0 < W) (hr : 0 ≤ r0 ∧ r0 < W) (hf : 500000000 ≤ first) (hs : 0 ≤ sc ∧ sc < 1000000000) (ht : 0 ≤ th ∧ th < 1000000000) (hl : 0 ≤ ld) (eM : M * k = (first * 1000000000 + sc) * W + m0) (eR : R * k = (ld * 1000000000 + th) * W + r0) (hM : 0 < M) (hR0 : 0 ≤ R) (hR : R < 1000000000 * M) : gmP first sc ld th (R / M) := by
  have hq0 : 0 ≤ R / M := Int.ediv_nonneg hR0 (by omega)
  have hq1 : R / M < 1000000000 := Int.ediv_lt_of_lt_mul hM hR
  have hqM : R / M * M ≤ R := Int.ediv_mul_le R (by omega)
  have hMk : 0 < M * k := Int.mul_pos hM hk
  have hRk : R * k < 1000000000 * (M * k) := by
    have := Int.mul_lt_mul_of_pos_right hR hk
    rwa [Int.mul_assoc] at this
  have hqMk : R / M * (M * k) ≤ R * k := by
    have := Int.mul_le_mul_of_nonneg_right hqM (show 0 ≤ k by omega)
    rwa [Int.mul_assoc] at this
  obtain ⟨q, hq⟩ : ∃ q, q = R / M := ⟨_, rfl⟩
  obtain ⟨D, hD⟩ : ∃ D, D = first * 1000000000 + sc := ⟨_, rfl⟩
  obtain ⟨T, hT⟩ : ∃ T, T = ld * 1000000000 + th := ⟨_, rfl⟩
  rw [← hq] at hq0 hq1 hqM hqMk ⊢
  unfold gmP
  rw [← hD] at eM ⊢
  rw [← hT] at eR ⊢
  rw [eM, eR] at hqMk hRk
  have c1 : q * D ≤ T := by
    apply Int.lt_add_one_iff.mp
    apply Int.lt_of_mul_lt_mul_right (a := W) _ (by omega)
    have := Int.mul_nonneg hq0 hm.1
    rw [Int.add_mul, Int.one_mul]
    rw [Int.mul_add, ← Int.mul_assoc] at hqMk
    omega
  refine ⟨c1, ?_, hq0, hq1, ?_, fun g g0 g1 g2 => ?_⟩
  · have := Int.mul_nonneg hq0 hs.1
    rw [hD, hT, Int.mul_add, ← Int.mul_assoc] at c1
    omega
  · have h2 : T * W < 1000000000 * (D + 1) * W := by
      have e : 1000000000 * (D + 1) * W = 1000000000 * (D * W + W) := by rw [Int.mul_assoc, Int.add_mul, Int.one_mul]
      rw [e]
      have : 1000000000 * (D * W + m0) < 1000000000 * (D * W + W) := by omega
      omega
    have h3 := Int.lt_of_mul_lt_mul_right h2 (by omega)
    omega
  · apply Decidable.byContradiction
    intro hg
    have h1 : (q + 1) * (M * k) > R * k := by
      have a1 : R < (q + 1) * M := by
        rw [hq]
        exact Int.lt_ediv_add_one_mul_self R hM
      have a2 := Int.mul_lt_mul_of_pos_right a1 hk
      rw [Int.mul_assoc] at a2
      exact a2
    have h2 : (q + 1) * (M * k) ≤ (g - 1) * (M * k) := Int.mul_le_mul_of_nonneg_right (by omega) (by omega)
    have h3 : (g - 1) * (M * k) ≤ (g - 1) * (D * W + W) := by
      rw [eM]
      exact Int.mul_le_mul_of_nonneg_left (by omega) (by omega)
    have h4 : (g - 1) * (D * W + W) = (g * D - (D + 1 - g)) * W := by grind
    have h5 : (g * D - (D + 1 - g)) * W ≤ T * W := Int.mul_le_mul_of_nonneg_right (by omega) (by omega)
    omega
theorem gm_2 {F G : Int → Int} {p v M : Int} (hV : WR G v M) (hv : 1 < v) (hf : 500000000 ≤ G (v - 1)) (hd : ∀ j, 0 ≤ j → j ≤ v → 0 ≤ F (p + j) ∧ F (p + j) < 1000000000) (hR : VL 1000000000 (sh F p) (v + 1) < 1000000000 * M) : gmP (G (v - 1)) (G (v - 2)) (F (p + v) * 1000000000 + F (p + v - 1)) (F (p + v - 2)) (VL 1000000000 (sh F p) (v + 1) / M) := by
  have e1 := VL_s (b := 1000000000) (F := G) (i := v - 2) (by omega)
  have e2 := VL_s (b := 1000000000) (F := G) (i := v - 1) (by omega)
  have f1 := VL_s (b := 1000000000) (F := sh F p) (i := v - 2) (by omega)
  have f2 := VL_s (b := 1000000000) (F := sh F p) (i := v - 1) (by omega)
  have f3 := VL_s (b := 1000000000) (F := sh F p) (i := v) (by omega)
  rw [show v - 2 + 1 = v - 1 by omega] at e1 f1
  rw [show v - 1 + 1 = v by omega] at e2 f2
  have p1 := PW_s (b := 1000000000) (i := v - 2) (by omega)
  have p2 := PW_s (b := 1000000000) (i := v - 1) (by omega)
  rw [show v - 2 + 1 = v - 1 by omega] at p1
  rw [show v - 1 + 1 = v by omega] at p2
  have g1 := VL_bd (b := 1000000000) (F := G) (by decide) (v - 2) (by omega) (fun j a b => hV.2.1 j a (by omega))
  have g2 := VL_bd (b := 1000000000) (F := sh F p) (by decide) (v - 2) (by omega) (fun j a b => hd j a (by omega))
  have g3 := VL_bd (b := 1000000000) (F := sh F p) (by decide) (v + 1) (by omega) (fun j a b => hd j a (by omega))
  have s1 : sh F p (v - 2) = F (p + v - 2) := by unfold sh; congr 1; omega
  have s2 : sh F p (v - 1) = F (p + v - 1) := by unfold sh; congr 1; omega
  have s3 : sh F p v = F (p + v) := rfl
  have d0 := hd v (by omega) (by omega)
  have d1 := hd (v - 1) (by omega) (by omega)
  have d2 := hd (v - 2) (by omega) (by omega)
  rw [show p + (v - 1) = p + v - 1 by omega] at d1
  rw [show p + (v - 2) = p + v - 2 by omega] at d2
  have hM := WR_ge hV (by omega)
  have hp := PW_pos (b := 1000000000) (by decide) (v - 1)
  refine gm_pure (W := PW 1000000000 (v - 2)) (m0 := VL 1000000000 G (v - 2)) (r0 := VL 1000000000 (sh F p) (v - 2)) (k := 1) (by decide) (PW_pos (by decide) _) g1 g2 hf (hV.2.1 (v - 2) (by omega) (by omega)) d2 (by omega) ?_ ?_ (by omega) g3.1 hR
  · rw [← hV.2.2.2, e2, e1, p1]
    grind
  · rw [f3, f2, f1, s1, s2, s3, p2, p1]
    grind
theorem gm_1 {F G : Int → Int} {p v M : Int} (hV : WR G v M) (hv : v = 1) (hf : 500000000 ≤ G (v - 1)) (hd : ∀ j, 0 ≤ j → j ≤ v → 0 ≤ F (p + j) ∧ F (p + j) < 1000000000) (hR : VL 1000000000 (sh F p) (v + 1) < 1000000000 * M) : gmP (G (v - 1)) 0 (F (p + v) * 1000000000 + F (p + v - 1)) 0 (VL 1000000000 (sh F p) (v + 1) / M) := by
  subst hv
  have e2 := VL_one (b := 1000000000) (F := G)
  have f2 := VL_one (b := 1000000000) (F := sh F p)
  have f3 := VL_s (b := 1000000000) (F := sh F p) (i := 1) (by omega)
  rw [PW_1, f2] at f3
  have g3 := VL_bd (b := 1000000000) (F := sh F p) (by decide) (1 + 1) (by omega) (fun j a b => hd j a (by omega))
  have s2 : sh F p 0 = F (p + 1 - 1) := by unfold sh; congr 1; omega
  have s3 : sh F p 1 = F (p + 1) := rfl
  have d0 := hd 1 (by omega) (by omega)
  have d1 := hd 0 (by omega) (by omega)
  rw [show p + 0 = p + 1 - 1 by omega] at d1
  rw [show (1 : Int) - 1 = 0 by omega] at hf ⊢
  have hM : M = G 0 := by rw [← hV.2.2.2, e2]
  refine gm_pure (W := 1) (m0 := 0) (r0 := 0) (k := 1000000000) (by decide) (by decide) (by decide) (by decide) hf (by decide) (by decide) (by omega) ?_ ?_ (by omega) g3.1 hR
  · rw [hM]; omega
  · rw [f3, s2, s3]; omega
def gmJ (first ld q gs rs t : Int) : Prop := q ≤ gs ∧ gs * first + rs = ld ∧ 0 ≤ rs ∧ 0 ≤ t ∧ t ≤ 2 ∧ t * first ≤ rs ∧ gs ≤ 1000000002
theorem gm_0 {first sc ld th q : Int} (hP : gmP first sc ld th q) (hf : 500000000 ≤ first) (hl : 0 ≤ ld) : gmJ first ld q (ld / first) (ld % first) 0 := by
  obtain ⟨a1, a2, a3, a4, a5, a6⟩ := hP
  refine ⟨(Int.le_ediv_iff_mul_le (by omega)).mpr a2, by rw [Int.mul_comm]; exact Int.mul_ediv_add_emod ld first, Int.emod_nonneg _ (by omega), by omega, by omega, by have := Int.emod_nonneg ld (show first ≠ 0 by omega); omega, ?_⟩
  have : ld / first < 1000000003 := by
    apply Int.ediv_lt_of_lt_mul (by omega)
    omega
  omega
theorem gm_s {first sc ld th q gs rs t : Int} (hP : gmP first sc ld th q) (hf : 500000000 ≤ first) (hs : 0 ≤ sc) (hJ : gmJ first ld q gs rs t) (hr : rs < 1000000000) (hc : 1000000000 ≤ gs ∨ rs * 1000000000 + th < gs * sc) : gmJ first ld q (gs - 1) (rs + first) (t + 1) := by
  obtain ⟨a1, a2, a3, a4, a5, a6⟩ := hP
  obtain ⟨b1, b2, b3, b4, b5, b6, b7⟩ := hJ
  have ht : t ≤ 1 := by
    apply Decidable.byContradiction
    intro z
    rw [show t = 2 by omega] at b6
    omega
  refine ⟨?_, by rw [Int.sub_mul]; omega, by omega, by omega, by omega, by rw [Int.add_mul]; omega, by omega⟩
  rcases hc with hc | hc
  · omega
  · apply Decidable.byContradiction
    intro z
    have z2 : gs = q := by omega
    subst z2
    rw [Int.mul_add, ← Int.mul_assoc] at a1
    have : gs * first * 1000000000 + gs * sc ≤ (gs * first + rs) * 1000000000 + th := by rw [b2]; exact a1
    omega
theorem gm_e {first sc ld th q gs rs t : Int} (hP : gmP first sc ld th q) (hf : 500000000 ≤ first ∧ first < 1000000000) (hs : 0 ≤ sc ∧ sc < 1000000000) (hth : 0 ≤ th) (hJ : gmJ first ld q gs rs t) (hc : 1000000000 ≤ rs ∨ (gs < 1000000000 ∧ gs * sc ≤ rs * 1000000000 + th)) : (gs = q ∨ gs = q + 1) ∧ 0 ≤ gs ∧ gs < 1000000000 := by
  obtain ⟨a1, a2, a3, a4, a5, a6⟩ := hP
  obtain ⟨b1, b2, b3, b4, b5, b6, b7⟩ := hJ
  have hg : gs < 1000000000 := by
    rcases hc with hc | hc
    · have : gs * first < 1000000000 * first := by omega
      exact Int.lt_of_mul_lt_mul_right this (by omega)
    · exact hc.1
  have hm : gs * sc ≤ rs * 1000000000 + th := by
    rcases hc with hc | hc
    · have := Int.mul_le_mul_of_nonneg_right (show gs ≤ 999999999 by omega) hs.1
      omega
    · exact hc.2
  have := a6 gs (by omega) hg (by
    rw [Int.mul_add, ← Int.mul_assoc, ← b2]
    omega)
  omega
/-- the divisor stretched: as many groups, and the top one is half the base at least -/
theorem stretch_half {t st : Int} (h1 : 1 ≤ t) (h2 : t < 1000000000) (hs : st = 1000000000 / (t + 1)) : 500000000 ≤ t * st ∧ 1 ≤ st ∧ st ≤ 500000000 ∧ st * (t + 1) ≤ 1000000000 := by
  have e1 := Int.mul_ediv_add_emod 1000000000 (t + 1)
  have e2 := Int.emod_nonneg 1000000000 (show t + 1 ≠ 0 by omega)
  have e3 := Int.emod_lt_of_pos 1000000000 (show 0 < t + 1 by omega)
  rw [← hs, Int.mul_comm] at e1
  have s1 : 1 ≤ st := by
    rw [hs]
    exact (Int.le_ediv_iff_mul_le (by omega)).mpr (by omega)
  have s2 : st ≤ 500000000 := by
    have := Int.mul_le_mul_of_nonneg_left (show 2 ≤ t + 1 by omega) (show 0 ≤ st by omega)
    omega
  have e4 : st * (t + 1) = t * st + st := by rw [Int.mul_add, Int.mul_one, Int.mul_comm]
  refine ⟨?_, s1, s2, by omega⟩
  rw [e4] at e1
  rcases (show t = 1 ∨ st = 1 ∨ st = 2 ∨ st = 3 ∨ (2 ≤ t ∧ 4 ≤ st) by omega) with h | h | h | h | ⟨h, h'⟩
  · subst h; omega
  · subst h; omega
  · subst h; omega
  · subst h; omega
  · have := Int.mul_nonneg (show 0 ≤ t - 2 by omega) (show 0 ≤ st - 4 by omega)
    rw [Int.sub_mul, Int.mul_sub] at this
    omega
theorem stretch_v {G G1 : Int → Int} {v v1 M st : Int} (hV : WR G v M) (hv : 0 < v) (hs : st = 1000000000 / (G (v - 1) + 1)) (h1 : WR G1 v1 (M * st)) : v1 = v ∧ 500000000 ≤ G1 (v - 1) := by
  have hd := hV.2.1 (v - 1) (by omega) (by omega)
  have ht := hV.2.2.1 hv
  obtain ⟨k1, k2, k3, k4⟩ := stretch_half (show 1 ≤ G (v - 1) by omega) hd.2 hs
  have e1 := VL_s (b := 1000000000) (F := G) (i := v - 1) (by omega)
  rw [show v - 1 + 1 = v by omega, hV.2.2.2] at e1
  have e2 := VL_bd (b := 1000000000) (F := G) (by decide) (v - 1) (by omega) (fun j a b => hV.2.1 j a (by omega))
  have hp := PW_pos (b := 1000000000) (by decide) (v - 1)
  have hps := PW_s (b := 1000000000) (i := v - 1) (by omega)
  rw [show v - 1 + 1 = v by omega] at hps
  have lo : G (v - 1) * st * PW 1000000000 (v - 1) ≤ M * st := by
    have a := Int.mul_le_mul_of_nonneg_right (show G (v - 1) * PW 1000000000 (v - 1) ≤ M by omega) (show 0 ≤ st by omega)
    rwa [Int.mul_right_comm] at a
  have hi : M * st < PW 1000000000 v := by
    have a1 : M < (G (v - 1) + 1) * PW 1000000000 (v - 1) := by rw [Int.add_mul]; omega
    have a2 := Int.mul_lt_mul_of_pos_right a1 (show 0 < st by omega)
    have a3 := Int.mul_le_mul_of_nonneg_right k4 (show 0 ≤ PW 1000000000 (v - 1) by omega)
    have a4 : (G (v - 1) + 1) * PW 1000000000 (v - 1) * st = st * (G (v - 1) + 1) * PW 1000000000 (v - 1) := by grind
    rw [hps]
    omega
  have w1 := WR_le h1 hV.1.1 hi
  have w2 : v ≤ v1 := by
    apply Decidable.byContradiction
    intro q
    have b := (WR_bd h1).2
    have b2 := PW_mono (b := 1000000000) (i := v1) (j := v - 1) (by decide) h1.1.1 (by omega)
    have b3 := Int.mul_le_mul_of_nonneg_right (show 1 ≤ G (v - 1) * st by omega) (show 0 ≤ PW 1000000000 (v - 1) by omega)
    omega
  have hv1 : v1 = v := by omega
  refine ⟨hv1, ?_⟩
  subst hv1
  have f1 := VL_s (b := 1000000000) (F := G1) (i := v1 - 1) (by omega)
  rw [show v1 - 1 + 1 = v1 by omega, h1.2.2.2] at f1
  have f2 := VL_bd (b := 1000000000) (F := G1) (by decide) (v1 - 1) (by omega) (fun j a b => h1.2.1 j a (by omega))
  apply Decidable.byContradiction
  intro q
  have f3 := Int.mul_le_mul_of_nonneg_right (show G1 (v1 - 1) + 1 ≤ G (v1 - 1) * st by omega) (show 0 ≤ PW 1000000000 (v1 - 1) by omega)
  rw [Int.add_mul] at f3
  omega
