/-! the class's tapes -/
def txC (v : TS) (E : Int → Int) (e : Int) : Prop := TP 60 v.1 v.2.1 v.2.2 ∧ ∃ q, skR v.1 v.2.1 v.2.2 q ∧ q < v.2.2 ∧ agr v.1 q v.2.2 E e
def CX (tp : Nat → TS) (tr : Int) (st : AS) : Prop := (0 ≤ st.tn ∧ st.tn ≤ tr ∧ tr ≤ 8) ∧ (∀ i, 0 ≤ i → i < st.tn → txC (tp i.toNat) (st.tx i) (st.tl i)) ∧ ∀ i, st.tn ≤ i → i < tr → TP 60 (tp i.toNat).1 (tp i.toNat).2.1 (tp i.toNat).2.2 ∧ blnk (tp i.toNat).1 (tp i.toNat).2.1 (tp i.toNat).2.2
def CI (D : Int → Int) (at_ en : Int) (st : AS) : Prop := TP 100 D at_ en ∧ ∃ q, skR D at_ en q ∧ agr D q en st.inp st.il
theorem CX_tp {tp : Nat → TS} {tr i : Int} {st : AS} (h : CX tp tr st) (h0 : 0 ≤ i) (hi : i < tr) : TP 60 (tp i.toNat).1 (tp i.toNat).2.1 (tp i.toNat).2.2 := by
  by_cases q : i < st.tn
  · exact (h.2.1 i h0 q).1
  · exact (h.2.2 i (by omega) hi).1
theorem CX_nb {tp : Nat → TS} {tr i : Int} {st : AS} (h : CX tp tr st) (h0 : 0 ≤ i) (hi : i < tr) : blnk (tp i.toNat).1 (tp i.toNat).2.1 (tp i.toNat).2.2 ↔ st.tn ≤ i := by
  constructor
  · intro z
    apply Decidable.byContradiction
    intro w
    obtain ⟨-, q, h1, h2, -⟩ := h.2.1 i h0 (by omega)
    have := (sk_bl h1).mpr z
    omega
  · intro z
    exact (h.2.2 i z hi).2
theorem CX_t {tp : Nat → TS} {tr : Int} {st : AS} (h : CX tp tr st) : CX tp st.tn st := ⟨⟨h.1.1, Int.le_refl _, by have := h.1; omega⟩, h.2.1, fun i x y => by omega⟩
theorem CX_c {tp : Nat → TS} {tr : Int} {st st1 : AS} (h : CX tp tr st) (e1 : st1.tn = st.tn) (e2 : st1.tx = st.tx) (e3 : st1.tl = st.tl) : CX tp tr st1 := by
  unfold CX
  rw [e1, e2, e3]
  exact h
theorem CI_c {D : Int → Int} {at_ en : Int} {st st1 : AS} (h : CI D at_ en st) (e1 : st1.inp = st.inp) (e2 : st1.il = st.il) : CI D at_ en st1 := by
  unfold CI
  rw [e1, e2]
  exact h
/-- a token's length -/
theorem ms_l {D : Int → Int} {p e r0 c1 r1 l u : Int} (h : msR D p e (D p) r0 c1 r1 l u) (hp : p < e) : 1 ≤ l ∧ l ≤ e - p := by
  unfold msR at h
  rcases h with ⟨a1, a2, a3, a4⟩ | ⟨a1, a2⟩ | ⟨a1, a2, q, a3, a4, a5⟩ | ⟨a1, a2, a3, a4, a5, a6, a7⟩
  · rcases a4 with ⟨-, b1, b2, -⟩ | ⟨-, b1, -⟩
    · exact ⟨b1, b2⟩
    · omega
  · omega
  · have n1 : p ≤ np D p := by unfold np; split <;> omega
    rcases a4 with ⟨⟨j, b1, b2, -⟩, -, b3⟩ | ⟨-, -, b3⟩
    · have := a3.2.1; omega
    · omega
  · omega
/-- the register of a pair -/
theorem ms_p {D : Int → Int} {e r0 c1 r1 l u : Int} (h : msR D 0 e (D 0) r0 c1 r1 l u) (hu : u = 0) (hp : prs c1) : r1 = D 1 - 97 ∧ 0 ≤ r1 ∧ r1 < 26 := by
  unfold msR at h
  rcases h with ⟨a1, a2, _⟩ | ⟨a1, a2⟩ | ⟨a1, a2, q, a3, a4, a5⟩ | ⟨a1, a2, a3, a4, a5, _⟩
  · unfold prs at hp; omega
  · rw [show (0 : Int) + 1 = 1 from rfl] at a2
    unfold prs at hp
    omega
  · rcases a4 with ⟨-, b1, -⟩ | ⟨-, b1, -⟩
    · unfold prs at hp; omega
    · unfold prs at hp; unfold nst at a1; omega
  · rw [a5] at hp; exact absurd hp a2
theorem ms_91 {D : Int → Int} {e r0 r1 l u : Int} (h : msR D 0 e (D 0) r0 91 r1 l u) : D 0 = 91 := by
  unfold msR at h
  rcases h with ⟨a1, _⟩ | ⟨a1, a2⟩ | ⟨a1, a2, q, a3, a4, a5⟩ | ⟨a1, a2, a3, a4, a5, _⟩
  · exact a1
  · unfold prs at a1; omega
  · rcases a4 with ⟨-, b1, -⟩ | ⟨-, b1, -⟩
    · omega
    · omega
  · omega
def tkI (st : AS) (r cm lg rg : Int) : Prop := (r = 0 ∧ ¬ isC st) ∨ (r = 1 ∧ isC st ∧ cm = cmC st ∧ lg = tkL (srD st) (srE st) ∧ (1 ≤ lg ∧ lg ≤ srE st) ∧ (prs cm → rg = srD st 1 - 97 ∧ 0 ≤ rg ∧ rg < 26) ∧ (cm = 48 → (srD st 0 = 95 ∨ srD st 0 = 46 ∨ (48 ≤ srD st 0 ∧ srD st 0 ≤ 57)) ∧ ∀ j, 1 ≤ j → j < lg → srD st j = 46 ∨ (48 ≤ srD st j ∧ srD st j ≤ 57)) ∧ (cm = 91 → 2 ≤ lg))
theorem fnd_e {D : Int → Int} {at_ en a1 it r cm0 rg0 lg0 cm1 rg1 lg1 uf cm2 : Int} {st : AS} (ha : agr D a1 en (srD st) (srE st)) (hit : (0 < st.tn ∧ it = 1) ∨ (st.tn ≤ 0 ∧ it = 0)) (hcr : ∀ j, a1 ≤ j → j < en → 32 ≤ D j ∧ D j ≤ 126) (h : skR D at_ en a1 ∧ ((a1 = en ∧ r = 0 ∧ cm2 = cm0 ∧ rg1 = rg0 ∧ lg1 = lg0) ∨ (a1 < en ∧ msR D a1 en (D a1) rg0 cm1 rg1 lg1 uf ∧ ((uf = 1 ∧ it = 1 ∧ cm1 ≠ 48 ∧ cm2 = 0) ∨ (¬ (uf = 1 ∧ it = 1 ∧ cm1 ≠ 48) ∧ cm2 = cm1)) ∧ ((r = 1 ∧ (it = 1 ∨ uf = 0)) ∨ (r = 0 ∧ it = 0 ∧ uf = 1))))) : tkI st r cm2 lg1 rg1 := by
  have ea := ha.1
  obtain ⟨-, ⟨h1, h2, -⟩ | ⟨h1, h2, h3, h4⟩⟩ := h
  · refine Or.inl ⟨h2, fun z => ?_⟩
    have := z.1
    omega
  · have hma := ms_a ha h1 h2
    have hte := tk_e hma
    have hub := (ms_b h2 (by have := hcr a1 (Int.le_refl _) h1; omega)).1
    have hl := ms_l h2 h1
    rcases h4 with ⟨k1, k2⟩ | ⟨k1, k2, k3⟩
    · refine Or.inr ⟨k1, ⟨by omega, ?_⟩, ?_, hte.2.1.symm, ⟨by omega, by omega⟩, fun z => ?_, fun z => ?_, fun z => ?_⟩
      · rw [hte.2.2]; omega
      · have hc := cmC_e (st := st) hte.1 hte.2.2
        rcases h3 with ⟨j1, j2, j3, j4⟩ | ⟨j1, j2⟩
        · rw [hc.1 ⟨j1, by omega, j3⟩]; exact j4
        · rw [hc.2 (fun w => j1 ⟨w.1, by omega, w.2.2⟩)]; exact j2
      · rcases h3 with ⟨j1, j2, j3, j4⟩ | ⟨j1, j2⟩
        · rw [j4] at z; unfold prs at z; omega
        · rw [j2] at z
          refine ms_p hma ?_ z
          have : cm1 ≠ 48 := by unfold prs at z; omega
          omega
      · rcases h3 with ⟨j1, j2, j3, j4⟩ | ⟨j1, j2⟩
        · omega
        · have n := num_u (by have w := hma; rw [show cm1 = 48 by omega] at w; exact w) (by omega)
          exact ⟨n.2.2.1, n.2.2.2⟩
      · rcases h3 with ⟨j1, j2, j3, j4⟩ | ⟨j1, j2⟩
        · omega
        · have w := hma
          rw [show cm1 = 91 by omega, show uf = 0 by omega] at w
          exact (txt_u w (ms_91 w)).1
    · refine Or.inl ⟨k1, fun z => ?_⟩
      have := z.2
      rw [hte.2.2] at this
      omega
/-! where the class's token stands -/
def tkS (b : Nat) (tp : Nat → TS) (D : Int → Int) (rv : Value) (s e : Int) (tr : Int) (E : Int → Int) (n : Int) : Prop := (0 < tr ∧ rv = .ref (b + 22 + 2 * (tr - 1).toNat + 1) ∧ (0 ≤ s ∧ s ≤ e ∧ e ≤ 60) ∧ agr (tp (tr - 1).toNat).1 s e E n ∧ ∀ j, s ≤ j → j < e → 32 ≤ (tp (tr - 1).toNat).1 j ∧ (tp (tr - 1).toNat).1 j ≤ 126) ∨ (tr ≤ 0 ∧ rv = .ref (b + 2) ∧ (0 ≤ s ∧ s ≤ e ∧ e ≤ 100) ∧ agr D s e E n ∧ ∀ j, s ≤ j → j < e → 32 ≤ D j ∧ D j ≤ 126)
/-- a text whose first spaces were passed over -/
theorem CX_sk {tp : Nat → TS} {st : AS} {D : Int → Int} {at_ en a1 : Int} (h : CX tp st.tn st) (ht : 0 < st.tn) (e : (D, at_, en) = tp (st.tn - 1).toNat) (hs : skR D at_ en a1) : agr D a1 en (srD st) (srE st) ∧ (0 ≤ a1 ∧ a1 ≤ en ∧ en ≤ 60) ∧ (∀ j, a1 ≤ j → j < en → 32 ≤ D j ∧ D j ≤ 126) ∧ CX (upF tp (st.tn - 1).toNat (D, a1, en)) st.tn st := by
  have h9 := h.2.1 (st.tn - 1) (by omega) (by omega)
  rw [← e] at h9
  obtain ⟨hT, q, h1, h2, h3⟩ := h9
  have hT : TP 60 D at_ en := hT
  have h1 : skR D at_ en q := h1
  have h2 : q < en := h2
  have h3 : agr D q en (st.tx (st.tn - 1)) (st.tl (st.tn - 1)) := h3
  have eq := skR_u hs h1
  subst eq
  have hT2 := TP_sk hT hs
  unfold srD srE
  rw [if_pos ht, if_pos ht]
  refine ⟨h3, ⟨hT2.1, hT2.2.1, hT2.2.2.1⟩, hT2.2.2.2.2, h.1, fun i x y => ?_, fun i x y => by omega⟩
  by_cases q : i = st.tn - 1
  · rw [q, upF_s]
    exact ⟨hT2, a1, ⟨Int.le_refl _, hT2.2.1, fun j (x : a1 ≤ j) y => by omega, fun z => h1.2.2.2 z⟩, h2, h3⟩
  · rw [upF_n (by omega)]; exact h.2.1 i x y
theorem CI_sk {D : Int → Int} {at_ en a1 : Int} {st : AS} (h : CI D at_ en st) (hs : skR D at_ en a1) : agr D a1 en st.inp st.il ∧ (0 ≤ a1 ∧ a1 ≤ en ∧ en ≤ 100) ∧ (∀ j, a1 ≤ j → j < en → 32 ≤ D j ∧ D j ≤ 126) ∧ CI D a1 en st := by
  obtain ⟨hT, q, h1, h3⟩ := h
  have eq := skR_u hs h1
  subst eq
  have hT2 := TP_sk hT hs
  exact ⟨h3, ⟨hT2.1, hT2.2.1, hT2.2.2.1⟩, hT2.2.2.2.2, hT2, a1, ⟨Int.le_refl _, hT2.2.1, fun j x y => by omega, fun z => h1.2.2.2 z⟩, h3⟩
/-- a token is taken from a text -/
theorem CX_tk {tp : Nat → TS} {st : AS} {D : Int → Int} {a1 en lg : Int} (h : CX tp st.tn st) (ht : 0 < st.tn) (e : (D, a1, en) = tp (st.tn - 1).toNat) (ha : agr D a1 en (srD st) (srE st)) (hl : 0 ≤ lg ∧ lg ≤ srE st) : CX (upF tp (st.tn - 1).toNat (D, a1 + lg, en)) st.tn (takA st lg) ∧ (takA st lg).inp = st.inp ∧ (takA st lg).il = st.il := by
  have h9 := h.2.1 (st.tn - 1) (by omega) (by omega)
  rw [← e] at h9
  obtain ⟨hT, -⟩ := h9
  have hT : TP 60 D a1 en := hT
  have ea := ha.1
  have hT2 : TP 60 D (a1 + lg) en := ⟨by have := hT.1; omega, by omega, hT.2.2.1, hT.2.2.2.1, fun j x y => hT.2.2.2.2 j (by omega) y⟩
  have hk : skR (srD st) lg (srE st) (skP (srD st) lg (srE st)) := sk_x (by omega)
  have hk2 := sk_sh ha hl.1 hk
  obtain ⟨q, hq⟩ : ∃ q, q = skP (srD st) lg (srE st) := ⟨_, rfl⟩
  rw [← hq] at hk hk2
  have q1 := hk.1
  have q2 := hk.2.1
  unfold takA
  rw [if_pos ht, ← hq]
  by_cases w : q = srE st
  · rw [if_pos w]
    refine ⟨⟨⟨by show 0 ≤ st.tn - 1; omega, by show st.tn - 1 ≤ st.tn; omega, h.1.2.2⟩, fun i x y => ?_, fun i x y => ?_⟩, rfl, rfl⟩
    · have y : i < st.tn - 1 := y
      rw [upF_n (by omega)]; exact h.2.1 i x (by omega)
    · have x : st.tn - 1 ≤ i := x
      rw [show i = st.tn - 1 by omega, upF_s]
      exact ⟨hT2, (sk_bl hk2).mp (by omega)⟩
  · rw [if_neg w]
    refine ⟨⟨h.1, fun i x y => ?_, fun i x y => ?_⟩, rfl, rfl⟩
    · show txC (upF tp (st.tn - 1).toNat (D, a1 + lg, en) i.toNat) (upT st.tx (st.tn - 1) (sh (srD st) q) i) (upT st.tl (st.tn - 1) (srE st - q) i)
      by_cases z : i = st.tn - 1
      · rw [z, upF_s, upT_s, upT_s]
        exact ⟨hT2, a1 + q, hk2, by show a1 + q < en; omega, agr_sh ha (by omega)⟩
      · have y : i < st.tn := y
        rw [upF_n (by omega), upT_n z, upT_n z]; exact h.2.1 i x y
    · have x : st.tn ≤ i := x
      omega
theorem CI_tk {D : Int → Int} {a1 en lg : Int} {st : AS} (h : CI D a1 en st) (ht : ¬ 0 < st.tn) (ha : agr D a1 en st.inp st.il) (hl : 0 ≤ lg ∧ lg ≤ st.il) : CI D (a1 + lg) en (takA st lg) ∧ (takA st lg).tn = st.tn ∧ (takA st lg).tx = st.tx ∧ (takA st lg).tl = st.tl := by
  obtain ⟨hT, -⟩ := h
  have ea := ha.1
  have hT2 : TP 100 D (a1 + lg) en := ⟨by have := hT.1; omega, by omega, hT.2.2.1, hT.2.2.2.1, fun j x y => hT.2.2.2.2 j (by omega) y⟩
  have hk : skR st.inp lg st.il (skP st.inp lg st.il) := sk_x (by omega)
  have hk2 := sk_sh ha hl.1 hk
  have q1 := hk.1
  unfold takA
  rw [if_neg ht]
  exact ⟨⟨hT2, a1 + skP st.inp lg st.il, hk2, agr_sh ha (by omega)⟩, rfl, rfl, rfl⟩
theorem fnd_c {D : Int → Int} {at_ en a1 it r cm0 rg0 lg0 cm1 rg1 lg1 uf cm2 : Int} (h : skR D at_ en a1 ∧ ((a1 = en ∧ r = 0 ∧ cm2 = cm0 ∧ rg1 = rg0 ∧ lg1 = lg0) ∨ (a1 < en ∧ msR D a1 en (D a1) rg0 cm1 rg1 lg1 uf ∧ ((uf = 1 ∧ it = 1 ∧ cm1 ≠ 48 ∧ cm2 = 0) ∨ (¬ (uf = 1 ∧ it = 1 ∧ cm1 ≠ 48) ∧ cm2 = cm1)) ∧ ((r = 1 ∧ (it = 1 ∨ uf = 0)) ∨ (r = 0 ∧ it = 0 ∧ uf = 1))))) (hc : 0 ≤ cm0 ∧ cm0 < 65536) (hcr : ∀ j, a1 ≤ j → j < en → 32 ≤ D j ∧ D j ≤ 126) : 0 ≤ cm2 ∧ cm2 < 65536 := by
  obtain ⟨-, ⟨h1, h2, h3, -⟩ | ⟨h1, h2, h3, -⟩⟩ := h
  · omega
  · have := (ms_b h2 (by have := hcr a1 (Int.le_refl _) h1; omega)).2
    rcases h3 with ⟨-, -, -, h4⟩ | ⟨-, h4⟩ <;> omega
theorem CI_il {D : Int → Int} {at_ en : Int} {st : AS} (h : CI D at_ en st) : (blnk D at_ en ↔ st.il = 0) ∧ 0 ≤ st.il := by
  obtain ⟨-, q, h1, h2⟩ := h
  have a := h2.1
  have b := h1.2.1
  rw [← sk_bl h1]
  omega
section PL2
variable {dA : Nat → ClassId} {b : Nat} {vs : Nat → VS} {tp : Nat → TS} {k j : Nat}
def tVT (dA : Nat → ClassId) (b : Nat) (vs : Nat → VS) (tp : Nat → TS) (k j : Nat) : va_W := vpl dA b vs ((List.range 46).erase k) ++ tpl dA b tp ((List.range 8).erase j)
theorem fVT (hk : k < 46) (hj : j < 8) : (tl0 dA b vs tp).Perm (vcl dA (b + 38 + 4 * k) (vs k) ++ (tcl dA (b + 22 + 2 * j) (tp j) ++ tVT dA b vs tp k j)) := by
  refine (fV1 hk).trans (List.Perm.append_left _ ?_)
  unfold tV1 tVT
  have h1 := (pool_f (V := fun k => tcl dA (b + 22 + 2 * k) (tp k)) (List.mem_range.mpr hj)).append_left (vpl dA b vs ((List.range 46).erase k))
  refine h1.trans ?_
  rw [← List.append_assoc, ← List.append_assoc]
  exact List.perm_append_comm.append_right _
theorem uVT {v : VS} {w : TS} (hk : k < 46) (hj : j < 8) : (vcl dA (b + 38 + 4 * k) v ++ (tcl dA (b + 22 + 2 * j) w ++ tVT dA b vs tp k j)).Perm (tl0 dA b (upF vs k v) (upF tp j w)) := by
  have h1 : (tcl dA (b + 22 + 2 * j) w ++ tVT dA b vs tp k j).Perm (tV1 dA b vs (upF tp j w) k) := by
    unfold tV1 tVT
    rw [← List.append_assoc]
    refine (List.perm_append_comm.append_right _).trans ?_
    rw [List.append_assoc]
    exact (tpl_u (List.mem_range.mpr hj) nd8).append_left _
  exact (List.Perm.append_left _ h1).trans (uV1 hk)
end PL2
