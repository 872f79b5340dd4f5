def prs (c : Int) : Prop := c = 60 ∨ c = 61 ∨ c = 62 ∨ c = 108 ∨ c = 115
def nst (c : Int) : Prop := c = 95 ∨ c = 46 ∨ (48 ≤ c ∧ c ≤ 57)
/-- a token is measured: its command, register, length, and whether more could come -/
def msR (D : Int → Int) (st en cm0 rg0 cm1 rg1 lg1 uf : Int) : Prop :=
  (cm0 = 91 ∧ cm1 = cm0 ∧ rg1 = rg0 ∧ ((uf = 0 ∧ txR D st en lg1) ∨ (uf = 1 ∧ lg1 = 1 ∧ txN D st en))) ∨
  (prs cm0 ∧ ((uf = 1 ∧ en ≤ st + 1 ∧ lg1 = 1 ∧ rg1 = rg0 ∧ cm1 = cm0) ∨ (uf = 0 ∧ st + 1 < en ∧ lg1 = 2 ∧ rg1 = D (st + 1) - 97 ∧ ((0 ≤ rg1 ∧ rg1 < 26 ∧ cm1 = cm0) ∨ ((rg1 < 0 ∨ 26 ≤ rg1) ∧ cm1 = 0))))) ∨
  (nst cm0 ∧ rg1 = rg0 ∧ ∃ q, nmR D (np D st) en q ∧ ((hasD D (np D st) q ∧ cm1 = 48 ∧ lg1 = q - st) ∨ (¬ hasD D (np D st) q ∧ cm1 = cm0 ∧ lg1 = 1)) ∧ ((uf = 1 ∧ q = en) ∨ (uf = 0 ∧ q < en))) ∨
  (cm0 ≠ 91 ∧ ¬ prs cm0 ∧ ¬ nst cm0 ∧ uf = 0 ∧ cm1 = cm0 ∧ rg1 = rg0 ∧ lg1 = 1)
theorem ms_b {D : Int → Int} {st en cm0 rg0 cm1 rg1 lg1 uf : Int} (h : msR D st en cm0 rg0 cm1 rg1 lg1 uf) (hc : 0 ≤ cm0 ∧ cm0 < 65536) : (uf = 0 ∨ uf = 1) ∧ 0 ≤ cm1 ∧ cm1 < 65536 := by
  unfold msR prs nst at h
  rcases h with ⟨a, b, c, d⟩ | ⟨a, b⟩ | ⟨a, b, q, c, d, e⟩ | ⟨a, b, c, d, e, f⟩
  · rcases d with ⟨d, -⟩ | ⟨d, -⟩ <;> omega
  · omega
  · rcases d with ⟨-, d, -⟩ | ⟨-, d, -⟩ <;> omega
  · omega
