/-! numbers in groups: F 0 + F 1 * b + .. -/
def vl (b : Int) (F : Int → Int) : Nat → Int
  | 0 => 0
  | n + 1 => vl b F n + F n * b ^ n
def VL (b : Int) (F : Int → Int) (i : Int) : Int := vl b F i.toNat
def PW (b i : Int) : Int := b ^ i.toNat
theorem int_ind {P : Int → Prop} (h0 : P 0) (hs : ∀ i : Int, 0 ≤ i → P i → P (i + 1)) : ∀ i : Int, 0 ≤ i → P i := by
  intro i hi
  obtain ⟨n, rfl⟩ := Int.eq_ofNat_of_zero_le hi
  induction n with
  | zero => exact h0
  | succ n ih => exact hs n (by omega) (ih (by omega))
theorem PW_0 (b : Int) : PW b 0 = 1 := by simp [PW]
theorem PW_s {b i : Int} (h : 0 ≤ i) : PW b (i + 1) = PW b i * b := by
  unfold PW
  rw [show (i + 1).toNat = i.toNat + 1 by omega, Int.pow_succ]
theorem PW_1 (b : Int) : PW b 1 = b := by
  have := PW_s (b := b) (i := 0) (by omega)
  rw [PW_0] at this
  simpa using this
theorem PW_pos {b : Int} (hb : 0 < b) (i : Int) : 0 < PW b i := Int.pow_pos hb
theorem PW_add {b i j : Int} (hi : 0 ≤ i) (hj : 0 ≤ j) : PW b (i + j) = PW b i * PW b j := by
  unfold PW
  rw [show (i + j).toNat = i.toNat + j.toNat by omega, Int.pow_add]
theorem PW_mono {b i j : Int} (hb : 1 ≤ b) (hi : 0 ≤ i) (hij : i ≤ j) : PW b i ≤ PW b j := by
  have h := PW_add (b := b) hi (show 0 ≤ j - i by omega)
  rw [show i + (j - i) = j by omega] at h
  rw [h]
  have h1 := PW_pos (b := b) (by omega) i
  have h2 := PW_pos (b := b) (by omega) (j - i)
  have := Int.mul_le_mul_of_nonneg_left (show 1 ≤ PW b (j - i) by omega) (show 0 ≤ PW b i by omega)
  omega
theorem PW_lt {b i j : Int} (hb : 2 ≤ b) (hi : 0 ≤ i) (hij : i < j) : PW b i < PW b j := by
  have h1 := PW_mono (b := b) (i := i + 1) (j := j) (by omega) (by omega) (by omega)
  rw [PW_s hi] at h1
  have h2 := PW_pos (b := b) (by omega) i
  have := Int.mul_le_mul_of_nonneg_left (show 2 ≤ b by omega) (show 0 ≤ PW b i by omega)
  omega
theorem VL_0 (b : Int) (F : Int → Int) : VL b F 0 = 0 := rfl
theorem VL_s {b : Int} {F : Int → Int} {i : Int} (h : 0 ≤ i) : VL b F (i + 1) = VL b F i + F i * PW b i := by
  unfold VL PW
  rw [show (i + 1).toNat = i.toNat + 1 by omega]
  show vl b F i.toNat + F ((i.toNat : Nat) : Int) * b ^ i.toNat = _
  rw [Int.toNat_of_nonneg h]
theorem VL_c {b : Int} {F G : Int → Int} : ∀ i : Int, 0 ≤ i → (∀ j, 0 ≤ j → j < i → F j = G j) → VL b F i = VL b G i :=
  int_ind (fun _ => rfl) fun i hi ih h => by
    rw [VL_s hi, VL_s hi, ih (fun j h1 h2 => h j h1 (by omega)), h i hi (by omega)]
theorem VL_up {b : Int} {F : Int → Int} {i k v : Int} (hi : 0 ≤ i) (hk : i ≤ k) : VL b (up F k v) i = VL b F i :=
  VL_c i hi fun j _ h2 => up_n (by omega)
theorem VL_bd {b : Int} {F : Int → Int} (hb : 0 < b) : ∀ i : Int, 0 ≤ i → (∀ j, 0 ≤ j → j < i → 0 ≤ F j ∧ F j < b) → 0 ≤ VL b F i ∧ VL b F i < PW b i :=
  int_ind (fun _ => by rw [VL_0, PW_0]; omega) fun i hi ih h => by
    have h1 := ih (fun j a b => h j a (by omega))
    have h2 := h i hi (by omega)
    have h3 := PW_pos hb i
    rw [VL_s hi, PW_s hi]
    have h4 := Int.mul_le_mul_of_nonneg_right (show F i ≤ b - 1 by omega) (show 0 ≤ PW b i by omega)
    have h5 := Int.mul_nonneg h2.1 (show 0 ≤ PW b i by omega)
    rw [Int.sub_mul, Int.one_mul, Int.mul_comm b] at h4
    omega
/-- the upper part -/
theorem VL_split {b : Int} {F : Int → Int} {i : Int} (hi : 0 ≤ i) : ∀ j : Int, 0 ≤ j → VL b F (i + j) = VL b F i + PW b i * VL b (fun t => F (i + t)) j :=
  int_ind (by rw [VL_0, Int.add_zero]; omega) fun j hj ih => by
    rw [show i + (j + 1) = (i + j) + 1 by omega, VL_s (by omega), ih, VL_s hj, PW_add hi hj, Int.mul_add]
    have : F (i + j) * (PW b i * PW b j) = PW b i * (F (i + j) * PW b j) := by rw [Int.mul_left_comm]
    omega
theorem VL_one {b : Int} {F : Int → Int} : VL b F 1 = F 0 := by
  have := VL_s (b := b) (F := F) (i := 0) (by omega)
  rw [VL_0, PW_0] at this
  simpa using this
theorem VL_zero {b : Int} {F : Int → Int} : ∀ i : Int, 0 ≤ i → (∀ j, 0 ≤ j → j < i → F j = 0) → VL b F i = 0 :=
  int_ind (fun _ => rfl) fun i hi ih h => by
    rw [VL_s hi, ih (fun j a b => h j a (by omega)), h i hi (by omega)]
    omega
/-- the top group is not 0: the number is large -/
theorem VL_top {b : Int} {F : Int → Int} {u : Int} (hb : 0 < b) (hu : 0 < u) (hd : ∀ j, 0 ≤ j → j < u → 0 ≤ F j ∧ F j < b) (ht : F (u - 1) ≠ 0) : PW b (u - 1) ≤ VL b F u := by
  have h1 := VL_s (b := b) (F := F) (i := u - 1) (by omega)
  rw [show u - 1 + 1 = u by omega] at h1
  have h2 := (VL_bd (b := b) (F := F) hb (u - 1) (by omega) (fun j a b => hd j a (by omega))).1
  have h3 := hd (u - 1) (by omega) (by omega)
  have h4 := PW_pos hb (u - 1)
  have h5 := Int.mul_le_mul_of_nonneg_right (show 1 ≤ F (u - 1) by omega) (show 0 ≤ PW b (u - 1) by omega)
  omega
