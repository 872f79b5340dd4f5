/-! a Whole: u groups of nine digits -/
def WR (F : Int → Int) (u N : Int) : Prop := (0 ≤ u ∧ u ≤ 32) ∧ (∀ j, 0 ≤ j → j < u → 0 ≤ F j ∧ F j < 1000000000) ∧ (0 < u → F (u - 1) ≠ 0) ∧ VL 1000000000 F u = N
theorem WR_bd {F : Int → Int} {u N : Int} (h : WR F u N) : 0 ≤ N ∧ N < PW 1000000000 u := by
  rw [← h.2.2.2]
  exact VL_bd (by decide) u h.1.1 h.2.1
theorem WR_ge {F : Int → Int} {u N : Int} (h : WR F u N) (hu : 0 < u) : PW 1000000000 (u - 1) ≤ N := by
  rw [← h.2.2.2]
  exact VL_top (by decide) hu h.2.1 (h.2.2.1 hu)
theorem WR_z {F : Int → Int} {u N : Int} (h : WR F u N) : u = 0 ↔ N = 0 := by
  constructor
  · intro q
    subst q
    exact h.2.2.2.symm.trans (VL_0 _ _)
  · intro q
    apply Decidable.byContradiction
    intro hu
    have h1 := WR_ge h (by have := h.1.1; omega)
    have h2 := PW_pos (b := 1000000000) (by decide) (u - 1)
    omega
theorem WR_le {F : Int → Int} {u N k : Int} (h : WR F u N) (hk : 0 ≤ k) (hN : N < PW 1000000000 k) : u ≤ k := by
  apply Decidable.byContradiction
  intro hu
  have h1 := WR_ge h (by omega)
  have h2 := PW_mono (b := 1000000000) (i := k) (j := u - 1) (by decide) hk (by omega)
  omega
/-- a number that is large enough has a top group -/
theorem top_ne {F : Int → Int} {u : Int} (hd : ∀ j, 0 ≤ j → j < u → 0 ≤ F j ∧ F j < 1000000000) (hu : 0 < u) (h : PW 1000000000 (u - 1) ≤ VL 1000000000 F u) : F (u - 1) ≠ 0 := by
  intro q
  have h1 := VL_s (b := 1000000000) (F := F) (i := u - 1) (by omega)
  rw [show u - 1 + 1 = u by omega, q, Int.zero_mul] at h1
  have h2 := (VL_bd (b := 1000000000) (F := F) (by decide) (u - 1) (by omega) (fun j a b => hd j a (by omega))).2
  omega
/-! times a small number, plus -/
def tspJ (F0 : Int → Int) (fac more : Int) (F : Int → Int) (c i : Int) : Prop := 0 ≤ i ∧ 0 ≤ c ∧ c < fac ∧ (∀ j, 0 ≤ j → j < i → 0 ≤ F j ∧ F j < 1000000000) ∧ (∀ j, i ≤ j → F j = F0 j) ∧ VL 1000000000 F i + c * PW 1000000000 i = VL 1000000000 F0 i * fac + more
theorem tsp_0 {F0 : Int → Int} {fac more : Int} (h0 : 0 ≤ more) (h1 : more < fac) : tspJ F0 fac more F0 more 0 :=
  ⟨by omega, h0, h1, fun j a b => by omega, fun _ _ => rfl, by rw [VL_0, PW_0]; omega⟩
theorem tsp_x {F0 F : Int → Int} {fac more c i : Int} (hJ : tspJ F0 fac more F c i) (hf : fac ≤ 1000000000) (hd : 0 ≤ F0 i ∧ F0 i < 1000000000) : 0 ≤ c + F i * fac ∧ c + F i * fac < 1000000000 * fac := by
  obtain ⟨h0, h1, h2, h3, h4, h5⟩ := hJ
  rw [h4 i (by omega)]
  have a1 := Int.mul_nonneg hd.1 (show 0 ≤ fac by omega)
  have a2 := Int.mul_le_mul_of_nonneg_right (show F0 i ≤ 999999999 by omega) (show 0 ≤ fac by omega)
  omega
theorem tsp_s {F0 F : Int → Int} {fac more c i : Int} (hJ : tspJ F0 fac more F c i) (hf : fac ≤ 1000000000) (hd : 0 ≤ F0 i ∧ F0 i < 1000000000) : tspJ F0 fac more (up F i ((c + F i * fac) % 1000000000)) ((c + F i * fac) / 1000000000) (i + 1) := by
  have hx := tsp_x hJ hf hd
  obtain ⟨h0, h1, h2, h3, h4, h5⟩ := hJ
  have e4 := h4 i (by omega)
  obtain ⟨x, hxe⟩ : ∃ x, x = c + F i * fac := ⟨_, rfl⟩
  rw [← hxe] at hx ⊢
  refine ⟨by omega, by omega, by omega, fun j a b => ?_, fun j a => ?_, ?_⟩
  · by_cases hj : j = i
    · subst hj; rw [up_s]; omega
    · rw [up_n hj]; exact h3 j a (by omega)
  · rw [up_n (by omega)]; exact h4 j (by omega)
  · rw [VL_s h0, VL_s h0, VL_up h0 (by omega), up_s, PW_s h0]
    have e1 : x = x / 1000000000 * 1000000000 + x % 1000000000 := by omega
    have e2 : (x / 1000000000 * 1000000000 + x % 1000000000) * PW 1000000000 i = (c + F0 i * fac) * PW 1000000000 i := by rw [← e1, hxe, e4]
    grind
theorem tsp_e0 {F0 F : Int → Int} {fac more c u N : Int} (hW : WR F0 u N) (hJ : tspJ F0 fac more F c u) (hf : 1 ≤ fac) (hm : 0 ≤ more) (hc : c ≤ 0) : WR F u (N * fac + more) := by
  obtain ⟨h0, h1, h2, h3, h4, h5⟩ := hJ
  have hc0 : c = 0 := by omega
  subst hc0
  rw [hW.2.2.2] at h5
  have e : VL 1000000000 F u = N * fac + more := by omega
  refine ⟨hW.1, h3, fun hu => top_ne h3 hu ?_, e⟩
  have g1 := WR_ge hW hu
  have g2 := Int.mul_le_mul_of_nonneg_left hf (WR_bd hW).1
  omega
theorem tsp_e1 {F0 F : Int → Int} {fac more c u N : Int} (hW : WR F0 u N) (hJ : tspJ F0 fac more F c u) (hf : fac ≤ 1000000000) (hc : 0 < c) (hu : u < 32) : WR (up F u c) (u + 1) (N * fac + more) := by
  obtain ⟨h0, h1, h2, h3, h4, h5⟩ := hJ
  refine ⟨by omega, fun j a b => ?_, fun _ => ?_, ?_⟩
  · by_cases hj : j = u
    · subst hj; rw [up_s]; omega
    · rw [up_n hj]; exact h3 j a (by omega)
  · rw [show u + 1 - 1 = u by omega, up_s]; omega
  · rw [VL_s h0, VL_up h0 (by omega), up_s, h5, hW.2.2.2]
theorem tsp_e2 {F0 F : Int → Int} {fac more c u N : Int} (hW : WR F0 u N) (hJ : tspJ F0 fac more F c u) (hc : 0 < c) (hb : N * fac + more < PW 1000000000 32) : u < 32 := by
  obtain ⟨h0, h1, h2, h3, h4, h5⟩ := hJ
  apply Decidable.byContradiction
  intro hu
  have hu2 : u = 32 := by have := hW.1.2; omega
  subst hu2
  have g1 := (VL_bd (b := 1000000000) (F := F) (by decide) 32 (by omega) h3).1
  have g2 := PW_pos (b := 1000000000) (by decide) 32
  have g3 := Int.mul_le_mul_of_nonneg_right (show 1 ≤ c by omega) (show 0 ≤ PW 1000000000 32 by omega)
  rw [hW.2.2.2] at h5
  omega
/-- not trimmed yet -/
def WD (F : Int → Int) (u N : Int) : Prop := (0 ≤ u ∧ u ≤ 32) ∧ (∀ j, 0 ≤ j → j < u → 0 ≤ F j ∧ F j < 1000000000) ∧ VL 1000000000 F u = N
theorem WR_D {F : Int → Int} {u N : Int} (h : WR F u N) : WD F u N := ⟨h.1, h.2.1, h.2.2.2⟩
theorem WD_t0 {F : Int → Int} {u N : Int} (h : WD F u N) (hu : u ≤ 0) : WR F u N := ⟨h.1, h.2.1, fun q => by omega, h.2.2⟩
theorem WD_t1 {F : Int → Int} {u N : Int} (h : WD F u N) (hu : F (u - 1) ≠ 0) : WR F u N := ⟨h.1, h.2.1, fun _ => hu, h.2.2⟩
theorem WD_s {F : Int → Int} {u N : Int} (h : WD F u N) (hp : 0 < u) (hu : F (u - 1) = 0) : WD F (u - 1) N := by
  refine ⟨by have := h.1; omega, fun j a b => h.2.1 j a (by omega), ?_⟩
  have h1 := VL_s (b := 1000000000) (F := F) (i := u - 1) (by omega)
  rw [show u - 1 + 1 = u by omega, hu, h.2.2] at h1
  omega
theorem WR_low {F : Int → Int} {u N : Int} (h : WR F u N) (hu : 0 < u) : N % 1000000000 = F 0 := by
  have h1 := VL_split (b := 1000000000) (F := F) (i := 1) (by omega) (u - 1) (by omega)
  rw [show 1 + (u - 1) = u by omega, VL_one, PW_1, h.2.2.2] at h1
  have := h.2.1 0 (by omega) hu
  omega
