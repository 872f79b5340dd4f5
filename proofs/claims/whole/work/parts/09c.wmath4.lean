/-! long division: the steps -/
theorem sh_dn {F : Int → Int} {i n : Int} (hn : 0 ≤ n) : VL 1000000000 (sh F i) (n + 1) = F i + 1000000000 * VL 1000000000 (sh F (i + 1)) n := by
  have e := VL_split (b := 1000000000) (F := sh F i) (i := 1) (by omega) n hn
  rw [show 1 + n = n + 1 by omega, VL_one, PW_1] at e
  have e2 := VL_c (b := 1000000000) (F := fun t => sh F i (1 + t)) (G := sh F (i + 1)) n hn (fun j _ _ => by show F (i + (1 + j)) = F (i + 1 + j); congr 1; omega)
  rw [e2] at e
  have e3 : sh F i 0 = F i := by show F (i + 0) = F i; congr 1; omega
  rw [e3] at e
  exact e
def dvJ (F9 Q9 : Int → Int) (v k N1 M1 i : Int) : Prop := -1 ≤ i ∧ i < k ∧ (∀ j, 0 ≤ j → j ≤ i + v → 0 ≤ F9 j ∧ F9 j < 1000000000) ∧ (∀ j, i < j → j < k → 0 ≤ Q9 j ∧ Q9 j < 1000000000) ∧ VL 1000000000 (sh F9 (i + 1)) v < M1 ∧ N1 = VL 1000000000 F9 (i + 1 + v) + VL 1000000000 (sh Q9 (i + 1)) (k - 1 - i) * M1 * PW 1000000000 (i + 1)
theorem dv_0 {F1 G1 Q9 : Int → Int} {u1 v N1 M1 : Int} (hF : WR F1 u1 N1) (hG : WR G1 v M1) (hv : 0 < v) (hle : M1 ≤ N1) (hu : u1 < 32) : v ≤ u1 ∧ dvJ (up F1 u1 0) Q9 v (u1 - v + 1) N1 M1 (u1 - v) := by
  have hvu : v ≤ u1 := by
    apply Decidable.byContradiction
    intro q
    have := WR_cmp_u hF hG (by omega)
    omega
  refine ⟨hvu, by omega, by omega, fun j a b => ?_, fun j a b => by omega, ?_, ?_⟩
  · by_cases q : j = u1
    · rw [q, up_s]; omega
    · rw [up_n q]; exact hF.2.1 j a (by omega)
  · have e := VL_s (b := 1000000000) (F := sh (up F1 u1 0) (u1 - v + 1)) (i := v - 1) (by omega)
    rw [show v - 1 + 1 = v by omega] at e
    have e2 : sh (up F1 u1 0) (u1 - v + 1) (v - 1) = 0 := by
      show up F1 u1 0 (u1 - v + 1 + (v - 1)) = 0
      rw [show u1 - v + 1 + (v - 1) = u1 by omega, up_s]
    rw [e2] at e
    have e3 := VL_bd (b := 1000000000) (F := sh (up F1 u1 0) (u1 - v + 1)) (by decide) (v - 1) (by omega) (fun j a b => by
      show 0 ≤ up F1 u1 0 (u1 - v + 1 + j) ∧ up F1 u1 0 (u1 - v + 1 + j) < 1000000000
      rw [up_n (by omega)]
      exact hF.2.1 _ (by omega) (by omega))
    have e4 := WR_ge hG hv
    omega
  · rw [show u1 - v + 1 + v = u1 + 1 by omega, show u1 - v + 1 - 1 - (u1 - v) = 0 by omega, VL_0, VL_s hF.1.1, VL_up hF.1.1 (by omega), up_s, hF.2.2.2]
    omega
theorem dv_R {F9 Q9 : Int → Int} {v k N1 M1 i : Int} (hJ : dvJ F9 Q9 v k N1 M1 i) (hi : 0 ≤ i) (hv : 0 ≤ v) : VL 1000000000 (sh F9 i) (v + 1) < 1000000000 * M1 := by
  obtain ⟨a1, a2, a3, a4, a5, a6⟩ := hJ
  rw [sh_dn hv]
  have := a3 i hi (by omega)
  omega
theorem dv_t {F9 F8 G1 : Int → Int} {v M1 i g cy : Int} (hG : VL 1000000000 G1 v = M1) (hv : 0 ≤ v) (hM : 0 < M1 ∧ M1 < PW 1000000000 v) (hd : ∀ j, 0 ≤ j → j ≤ v → 0 ≤ F9 (i + j) ∧ F9 (i + j) < 1000000000) (hT : taJ F9 G1 i g F8 cy v) (hg : g = VL 1000000000 (sh F9 i) (v + 1) / M1 ∨ g = VL 1000000000 (sh F9 i) (v + 1) / M1 + 1) :
    (0 ≤ F9 (i + v) + cy → g = VL 1000000000 (sh F9 i) (v + 1) / M1 ∧ VL 1000000000 (sh F8 i) v = VL 1000000000 (sh F9 i) (v + 1) % M1) ∧ (F9 (i + v) + cy < 0 → g - 1 = VL 1000000000 (sh F9 i) (v + 1) / M1 ∧ VL 1000000000 (sh F8 i) v = VL 1000000000 (sh F9 i) (v + 1) % M1 - M1 + PW 1000000000 v) := by
  obtain ⟨a1, a2, a3, a4, a5, a6⟩ := hT
  have eR := VL_s (b := 1000000000) (F := sh F9 i) hv
  have s3 : sh F9 i v = F9 (i + v) := rfl
  rw [s3] at eR
  rw [hG] at a6
  have b8 := VL_bd (b := 1000000000) (F := sh F8 i) (by decide) v hv a4
  obtain ⟨R, hR⟩ : ∃ R, R = VL 1000000000 (sh F9 i) (v + 1) := ⟨_, rfl⟩
  rw [← hR] at eR hg ⊢
  have q1 := Int.mul_ediv_add_emod R M1
  have q2 := Int.emod_nonneg R (show M1 ≠ 0 by omega)
  have q3 := Int.emod_lt_of_pos R hM.1
  obtain ⟨q, hq⟩ : ∃ q, q = R / M1 := ⟨_, rfl⟩
  rw [← hq] at q1 hg ⊢
  obtain ⟨P, hP⟩ : ∃ P, P = PW 1000000000 v := ⟨_, rfl⟩
  rw [← hP] at a6 eR b8 hM ⊢
  obtain ⟨z, hz⟩ : ∃ z, z = F9 (i + v) + cy := ⟨_, rfl⟩
  have e1 : VL 1000000000 (sh F8 i) v + z * P = R - g * M1 := by
    rw [hz, Int.add_mul]
    omega
  rw [← hz]
  have e2 : M1 * q = q * M1 := Int.mul_comm _ _
  constructor
  · intro h
    have h1 := Int.mul_nonneg h (show 0 ≤ P by omega)
    have hgq : g = q := by
      rcases hg with h2 | h2
      · exact h2
      · subst h2
        rw [Int.add_mul, Int.one_mul] at e1
        omega
    subst hgq
    have hz0 : z = 0 := by
      apply Decidable.byContradiction
      intro w
      have := Int.mul_le_mul_of_nonneg_right (show 1 ≤ z by omega) (show 0 ≤ P by omega)
      omega
    rw [hz0] at e1
    exact ⟨rfl, by omega⟩
  · intro h
    have h1 := Int.mul_le_mul_of_nonneg_right (show z ≤ -1 by omega) (show 0 ≤ P by omega)
    have hgq : g = q + 1 := by
      rcases hg with h2 | h2
      · subst h2
        omega
      · exact h2
    subst hgq
    rw [Int.add_mul, Int.one_mul] at e1
    have hz1 : z = -1 := by
      apply Decidable.byContradiction
      intro w
      have := Int.mul_le_mul_of_nonneg_right (show z ≤ -2 by omega) (show 0 ≤ P by omega)
      omega
    rw [hz1] at e1
    exact ⟨by omega, by omega⟩
theorem dv_g {F8 F7 G1 : Int → Int} {v M1 i cy r : Int} (hG : VL 1000000000 G1 v = M1) (hv : 0 ≤ v) (hB : gbJ F8 G1 i F7 cy v) (h8 : VL 1000000000 (sh F8 i) v = r - M1 + PW 1000000000 v) (hr : 0 ≤ r ∧ r < M1) (hM : M1 < PW 1000000000 v) : VL 1000000000 (sh F7 i) v = r := by
  obtain ⟨a1, a2, a3, a4, a5, a6⟩ := hB
  have b7 := VL_bd (b := 1000000000) (F := sh F7 i) (by decide) v hv a4
  rw [hG, h8] at a6
  rcases (show cy = 0 ∨ cy = 1 by omega) with h | h
  · rw [h] at a6; omega
  · rw [h] at a6; omega
theorem dv_s {F9 Fn Q9 : Int → Int} {v k N1 M1 i : Int} (hJ : dvJ F9 Q9 v k N1 M1 i) (hi : 0 ≤ i) (hv : 0 ≤ v) (hM : 0 < M1) (hlo : ∀ j, j < i → Fn j = F9 j) (hd : ∀ j, 0 ≤ j → j < v → 0 ≤ Fn (i + j) ∧ Fn (i + j) < 1000000000) (hr : VL 1000000000 (sh Fn i) v = VL 1000000000 (sh F9 i) (v + 1) % M1) : dvJ Fn (up Q9 i (VL 1000000000 (sh F9 i) (v + 1) / M1)) v k N1 M1 (i - 1) := by
  have hRb := dv_R hJ hi hv
  obtain ⟨a1, a2, a3, a4, a5, a6⟩ := hJ
  have hR0 := (VL_bd (b := 1000000000) (F := sh F9 i) (by decide) (v + 1) (by omega) (fun j a b => a3 (i + j) (by omega) (by omega))).1
  obtain ⟨R, hR⟩ : ∃ R, R = VL 1000000000 (sh F9 i) (v + 1) := ⟨_, rfl⟩
  rw [← hR] at hRb hR0 hr ⊢
  have q1 := Int.mul_ediv_add_emod R M1
  have q2 := Int.emod_nonneg R (show M1 ≠ 0 by omega)
  have q3 := Int.emod_lt_of_pos R hM
  have q4 : 0 ≤ R / M1 := Int.ediv_nonneg hR0 (by omega)
  have q5 : R / M1 < 1000000000 := Int.ediv_lt_of_lt_mul hM hRb
  refine ⟨by omega, by omega, fun j b1 b2 => ?_, fun j b1 b2 => ?_, ?_, ?_⟩
  · by_cases q : j < i
    · rw [hlo j q]; exact a3 j b1 (by omega)
    · have := hd (j - i) (by omega) (by omega)
      rwa [show i + (j - i) = j by omega] at this
  · by_cases q : j = i
    · rw [q, up_s]; omega
    · rw [up_n q]; exact a4 j (by omega) b2
  · rw [show i - 1 + 1 = i by omega, hr]; exact q3
  · rw [show i - 1 + 1 = i by omega, show k - 1 - (i - 1) = (k - 1 - i) + 1 by omega, sh_dn (by omega), up_s]
    have e1 := VL_split (b := 1000000000) (F := Fn) hi v hv
    have e2 := VL_split (b := 1000000000) (F := F9) hi (v + 1) (by omega)
    have e3 : VL 1000000000 (fun t => Fn (i + t)) v = R % M1 := hr
    have e4 : VL 1000000000 (fun t => F9 (i + t)) (v + 1) = R := hR.symm
    have e5 := VL_c (b := 1000000000) (F := Fn) (G := F9) i hi (fun j _ b => hlo j b)
    have e6 := VL_c (b := 1000000000) (F := sh (up Q9 i (R / M1)) (i + 1)) (G := sh Q9 (i + 1)) (k - 1 - i) (by omega) (fun j a b => up_n (by omega))
    rw [show i + (v + 1) = i + 1 + v by omega, e4] at e2
    rw [e3, e5] at e1
    rw [e1, e6, a6, e2, PW_s hi]
    grind
theorem dv_e {F9 Q9 : Int → Int} {v k N1 M1 i : Int} (hJ : dvJ F9 Q9 v k N1 M1 i) (hi : i < 0) (hv : 0 ≤ v ∧ v ≤ 32) (hk : 0 ≤ k ∧ k ≤ 32) (hM : 0 < M1) : WD F9 v (N1 % M1) ∧ WD Q9 k (N1 / M1) := by
  obtain ⟨a1, a2, a3, a4, a5, a6⟩ := hJ
  have hi1 : i = -1 := by omega
  subst hi1
  have e1 : ∀ (F : Int → Int) (n : Int), 0 ≤ n → VL 1000000000 (sh F (-1 + 1)) n = VL 1000000000 F n := fun F n hn => VL_c n hn (fun j _ _ => by show F (-1 + 1 + j) = F j; congr 1; omega)
  rw [e1 _ _ hv.1] at a5
  rw [show -1 + 1 + v = v by omega, e1 _ _ (by omega), show k - 1 - -1 = k by omega, show (-1 : Int) + 1 = 0 by omega, PW_0, Int.mul_one] at a6
  have b := VL_bd (b := 1000000000) (F := F9) (by decide) v hv.1 (fun j x y => a3 j x (by omega))
  have m1 : N1 / M1 = VL 1000000000 Q9 k := by
    rw [a6, Int.add_mul_ediv_right _ _ (by omega), Int.ediv_eq_zero_of_lt b.1 a5]
    omega
  have m2 : N1 % M1 = VL 1000000000 F9 v := by
    rw [a6, Int.add_mul_emod_self_right, Int.emod_eq_of_lt b.1 a5]
  exact ⟨⟨hv, fun j x y => a3 j x (by omega), m2.symm⟩, hk, fun j x y => a4 j (by omega) y, m1.symm⟩
theorem dv_f {N M st : Int} (hs : 0 < st) (hM : 0 < M) : N * st / (M * st) = N / M ∧ N * st % (M * st) / st = N % M ∧ M * st / st = M := by
  refine ⟨Int.mul_ediv_mul_of_pos_left N M hs, ?_, Int.mul_ediv_cancel M (by omega)⟩
  rw [Int.mul_comm N, Int.mul_comm M, Int.mul_emod_mul_of_pos _ _ hs, Int.mul_ediv_cancel_left _ (by omega)]
