/-! the first state -/
def stI : AS := mkA (fun _ => 0) 0 (fun _ => mkN 0 0) 0 (fun _ => mkN 0 0) 0 (fun _ _ => 0) (fun _ => 0) 0 (fun _ => 0) 0
theorem CV_0 : CV vz0 (mkN 0 0) :=
  ⟨0, ⟨Or.inl rfl, Or.inl rfl, ⟨by decide, by decide⟩, ⟨by decide, by decide⟩, fun j x y => absurd y (Int.not_lt.mpr x), fun _ => rfl, fun _ => ⟨rfl, rfl⟩, fun h => absurd h (by decide), PW_pos (by decide) _⟩, ⟨⟨by decide, by decide⟩, fun j x y => absurd y (Int.not_lt.mpr x), fun h => absurd h (by decide), VL_0 _ _⟩, rfl, rfl, rfl, rfl, fun j x y => absurd y (Int.not_lt.mpr x)⟩
theorem CW_0 {dA : Nat → ClassId} {b : Nat} : CW dA b stI (wMr dA b 0 0 0 0 0 0 0 0 0 0 0 0 0 0 0 0 0 0 0 0 .null (fun i => i.toNat) (fun _ => 0) (fun _ => 0) (fun _ => 0) (fun _ => 0) (fun _ => 0) (fun _ => 0) (fun _ => 0) (fun _ => 0) (tl0 dA b (fun _ => vz0) (fun _ => tz0))) :=
  CW_i (show CH (fun i => i.toNat) (fun _ => vz0) 0 0 stI from ⟨⟨rfl, by decide, by decide⟩, ⟨rfl, by decide, by decide⟩, fun i x y => by show i.toNat < 20; omega, fun i j x y x2 y2 h => by have h9 : i.toNat = j.toNat := h; omega, fun i x y => CV_0, fun j x y => absurd y (Int.not_lt.mpr x)⟩)
    (show CX (fun _ => tz0) 0 stI from ⟨⟨Int.le_refl _, Int.le_refl _, by decide⟩, fun j x y => absurd y (Int.not_lt.mpr x), fun j x y => absurd y (Int.not_lt.mpr x)⟩)
    (show MG (fun _ => 0) 0 stI from ⟨⟨rfl, by decide, by decide⟩, fun j x y => absurd y (Int.not_lt.mpr x)⟩)
    (show CIx (fun _ => 0) 0 0 stI from ⟨⟨by decide, by decide, by decide, by decide, fun j x y => absurd y (Int.not_lt.mpr x)⟩, rfl, fun j x y => absurd y (Int.not_lt.mpr x)⟩) ⟨by decide, by decide⟩
theorem MT_0 {i : Int} : MT (fun _ => 0) (fun _ => 0) (fun _ => 0) (fun _ => 0) (fun _ => 0) i (mkN 0 0) :=
  Or.inl ⟨rfl, rfl, rfl, ⟨by decide, by decide⟩, ⟨⟨by decide, by decide⟩, fun j x y => absurd y (Int.not_lt.mpr x), (VL_0 _ _).trans (show (0 : Int) = ab 0 by decide)⟩, fun h => absurd h (by decide), Or.inl ⟨rfl, rfl⟩, rfl⟩
theorem MW_0 {dA : Nat → ClassId} {mo : Nat} : MW dA mo 0 stI (wMo dA mo 0 0 0 0 0 0 0 0 0 0 (fun _ => 0) (fun _ => 0) (fun _ => 0) (fun _ => 0) (fun _ => 0) (fun _ => 0) (fun _ => 0) (fun _ => 0) (fun _ => 0) (fun _ => 0) (fun _ => 0) (fun _ => 0) (fun _ => 0) []) :=
  MW_i rfl (show MA (fun _ => 0) (fun _ => 0) (fun _ => 0) (fun _ => 0) (fun _ => 0) 0 0 (fun _ => 0) (fun _ => 0) (fun _ => 0) 0 (fun _ => 0) 0 stI from ⟨⟨⟨rfl, by decide, by decide⟩, ⟨rfl, by decide, by decide⟩, fun i x y => MT_0, fun j x y => absurd y (Int.not_lt.mpr x)⟩, ⟨⟨rfl, by decide, by decide⟩, fun j x y => absurd y (Int.not_lt.mpr x)⟩, ⟨⟨rfl, by decide, by decide⟩, fun j x y => absurd y (Int.not_lt.mpr x)⟩⟩)
    (show MIx (fun _ => 0) 0 stI from ⟨⟨by decide, by decide⟩, fun j x y => absurd y (Int.not_lt.mpr x), rfl, fun j x y => absurd y (Int.not_lt.mpr x)⟩)
