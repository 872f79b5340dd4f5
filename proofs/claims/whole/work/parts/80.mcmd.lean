/-! printing, thing by thing -/
theorem prN_s {st : AS} {nl j : Int} (h : 0 ≤ j) : prN st nl (j + 1).toNat = prA (prN st nl j.toNat) (st.stk (st.h - 1 - j)) nl := by
  rw [show (j + 1).toNat = j.toNat + 1 by omega]
  show prA (prN st nl j.toNat) (st.stk (st.h - 1 - (j.toNat : Int))) nl = _
  rw [show (j.toNat : Int) = j by omega]
theorem prN_k {st : AS} {nl : Int} : ∀ n : Nat, (prN st nl n).h = st.h ∧ (prN st nl n).stk = st.stk ∧ (prN st nl n).k = st.k ∧ (prN st nl n).reg = st.reg ∧ (prN st nl n).tn = st.tn ∧ (prN st nl n).tx = st.tx ∧ (prN st nl n).tl = st.tl ∧ (prN st nl n).inp = st.inp ∧ (prN st nl n).il = st.il
  | 0 => ⟨rfl, rfl, rfl, rfl, rfl, rfl, rfl, rfl, rfl⟩
  | n + 1 => prN_k n
theorem thW_b {T S C L B : Int → Int} {th : Int} {a : Th} (h : MT T S C L B th a) : 0 ≤ thW a ∧ thW a ≤ 102 ∧ ∀ j, 0 ≤ j → j < thW a → 0 ≤ thC a j ∧ thC a j < 65536 := by
  have hb := MT_b h
  by_cases q : T th = 0
  · by_cases w : S th = 0
    · obtain ⟨h1, h2⟩ := th_0 h q w
      exact ⟨by omega, by omega, fun j _ _ => by rw [h2]; omega⟩
    · obtain ⟨ng, LL, h1, h2, h3, h4, h5, h6, h7, h8, h9⟩ := th_n h q w
      have h10 : 0 ≤ thW a ∧ thW a ≤ 102 := by rw [h4]; split <;> omega
      refine ⟨h10.1, h10.2, fun j _ _ => ?_⟩
      rw [h5]
      unfold prQ
      have d1 := dg_b (N := ab a.v) (p := LL - 1 - (j - ng))
      have d2 := dg_b (N := ab a.v) (p := LL - (j - ng))
      repeat (first | omega | split)
  · obtain ⟨h1, h2, h3, _, _⟩ := th_t h q
    exact ⟨by omega, by omega, fun j x y => by rw [h3 j x (by omega)]; have := MT_r h x (show j < L th by omega); omega⟩
theorem MG_0 {P P1 : Int → Int} {pn n1 : Int} {st : AS} {a : Th} (h : MG P pn st) (hn : n1 = pn + thW a) (hle : n1 ≤ 200) (h1 : ∀ j, j < pn → P1 j = P j) (h2 : ∀ j, 0 ≤ j → j < thW a → P1 (pn + j) = thC a j) (hb : 0 ≤ thW a ∧ thW a ≤ 102 ∧ ∀ j, 0 ≤ j → j < thW a → 0 ≤ thC a j ∧ thC a j < 65536) : MG P1 n1 (prA st a 0) := by
  obtain ⟨⟨e1, e2, e3⟩, e4⟩ := h
  refine ⟨⟨by show n1 = st.pl + thW a + 0; omega, by omega, hle⟩, fun j x y => ?_⟩
  show P1 j = (if j < st.pl then st.pg j else if j < st.pl + thW a then thC a (j - st.pl) else 10) ∧ _
  by_cases q : j < pn
  · rw [if_pos (by omega), h1 j q]; exact e4 j x q
  · have := h2 (j - pn) (by omega) (by omega)
    rw [show pn + (j - pn) = j by omega] at this
    rw [if_neg (by omega), if_pos (by omega), this, ← e1]
    exact ⟨rfl, hb.2.2 _ (by omega) (by omega)⟩
theorem MG_1 {P P1 : Int → Int} {pn n1 : Int} {st : AS} {a : Th} (h : MG P pn st) (hn : n1 = pn + thW a) (hle : n1 + 1 ≤ 200) (h1 : ∀ j, j < pn → P1 j = P j) (h2 : ∀ j, 0 ≤ j → j < thW a → P1 (pn + j) = thC a j) (hb : 0 ≤ thW a ∧ thW a ≤ 102 ∧ ∀ j, 0 ≤ j → j < thW a → 0 ≤ thC a j ∧ thC a j < 65536) : MG (up P1 n1 10) (n1 + 1) (prA st a 1) := by
  obtain ⟨⟨e1, e2, e3⟩, e4⟩ := h
  refine ⟨⟨by show n1 + 1 = st.pl + thW a + 1; omega, by omega, hle⟩, fun j x y => ?_⟩
  show up P1 n1 10 j = (if j < st.pl then st.pg j else if j < st.pl + thW a then thC a (j - st.pl) else 10) ∧ _
  by_cases z : j = n1
  · rw [z, up_s, if_neg (by omega), if_neg (by omega)]; exact ⟨rfl, by omega⟩
  · rw [up_n z]
    by_cases q : j < pn
    · rw [if_pos (by omega), h1 j q]; exact e4 j x q
    · have := h2 (j - pn) (by omega) (by omega)
      rw [show pn + (j - pn) = j by omega] at this
      rw [if_neg (by omega), if_pos (by omega), this, ← e1]
      exact ⟨rfl, hb.2.2 _ (by omega) (by omega)⟩
theorem prN_m {T S C L B : Int → Int} {hg kk nl : Int} {st : AS} (h : MH T S C L B hg kk st) (hn : 0 ≤ nl) : ∀ d : Nat, ∀ j : Int, 0 ≤ j → j + d ≤ hg → (prN st nl j.toNat).pl ≤ (prN st nl (j + d).toNat).pl
  | 0, j, _, _ => by rw [show j + (0 : Nat) = j by omega]; exact Int.le_refl _
  | d + 1, j, hj, hd => by
    have a := prN_m h hn d j hj (by omega)
    have b := thW_b (MH_t h (i := st.h - 1 - (j + d)) (by have := h.1; omega) (by have := h.1; omega))
    rw [show j + ((d + 1 : Nat) : Int) = j + d + 1 by omega, prN_s (by omega)]
    show _ ≤ (prN st nl (j + d).toNat).pl + thW (st.stk (st.h - 1 - (j + d))) + nl
    omega
noncomputable def prtA (st : AS) (c : Int) : Int × AS := if c = 112 then p1A st else if c = 110 then pnA st else pfA st
def mny (st : AS) (c : Int) : Int := if c = 102 then st.h else 1
def nwl (c : Int) : Int := if c = 110 then 0 else 1
theorem prt_o {st : AS} {c : Int} (hc : c = 112 ∨ c = 110 ∨ c = 102) (h : 200 < (prN st (nwl c) (mny st c).toNat).pl) : prtA st c = (-10, st) := by
  rcases hc with rfl | rfl | rfl
  · show p1A st = _; unfold p1A; exact if_pos h
  · show pnA st = _; unfold pnA; exact if_pos h
  · show pfA st = _; unfold pfA; exact if_pos h
theorem h_eta {q : AS} {h : Int} (e : q.h = h) : (mkA q.inp q.il q.stk h q.reg q.k q.tx q.tl q.tn q.pg q.pl) = q := by subst e; rfl
theorem prt_e {st : AS} {c : Int} (hc : c = 112 ∨ c = 110 ∨ c = 102) (h : (prN st (nwl c) (mny st c).toNat).pl ≤ 200) : prtA st c = (0, (mkA (prN st (nwl c) (mny st c).toNat).inp (prN st (nwl c) (mny st c).toNat).il (prN st (nwl c) (mny st c).toNat).stk (if c = 110 then st.h - 1 else st.h) (prN st (nwl c) (mny st c).toNat).reg (prN st (nwl c) (mny st c).toNat).k (prN st (nwl c) (mny st c).toNat).tx (prN st (nwl c) (mny st c).toNat).tl (prN st (nwl c) (mny st c).toNat).tn (prN st (nwl c) (mny st c).toNat).pg (prN st (nwl c) (mny st c).toNat).pl)) := by
  rcases hc with rfl | rfl | rfl
  · show p1A st = _; unfold p1A; rw [if_neg (by exact Int.not_lt.mpr h)]; rfl
  · show pnA st = _; unfold pnA; rw [if_neg (by exact Int.not_lt.mpr h)]; rfl
  · show pfA st = _; unfold pfA; rw [if_neg (by exact Int.not_lt.mpr h)]
    have := (prN_k (st := st) (nl := 1) st.h.toNat).1
    exact congrArg (Prod.mk 0) (h_eta this).symm
/-! what a command takes -/
def tkR (c r : Int) : Prop := (r = 2 ∧ (c = 37 ∨ c = 42 ∨ c = 43 ∨ c = 45 ∨ c = 47 ∨ c = 94 ∨ c = 114)) ∨ (r = 1 ∧ (c = 88 ∨ c = 90 ∨ c = 100 ∨ c = 107 ∨ c = 110 ∨ c = 112 ∨ c = 118 ∨ c = 120)) ∨ (r = 0 ∧ (c = 75 ∨ c = 99 ∨ c = 102 ∨ c = 113 ∨ c = 122)) ∨ (r = -1 ∧ c ≠ 37 ∧ c ≠ 42 ∧ c ≠ 43 ∧ c ≠ 45 ∧ c ≠ 47 ∧ c ≠ 94 ∧ c ≠ 114 ∧ c ≠ 88 ∧ c ≠ 90 ∧ c ≠ 100 ∧ c ≠ 107 ∧ c ≠ 110 ∧ c ≠ 112 ∧ c ≠ 118 ∧ c ≠ 120 ∧ c ≠ 75 ∧ c ≠ 99 ∧ c ≠ 102 ∧ c ≠ 113 ∧ c ≠ 122)
def rks (c : Int) : Prop := c = 37 ∨ c = 42 ∨ c = 43 ∨ c = 45 ∨ c = 47 ∨ c = 94
theorem need_e {c n : Int} (h : tkR c n) (hp : ¬ prs c) (hn : 0 ≤ n) : need c = n := by
  unfold tkR prs at *
  unfold need
  split
  · omega
  · split <;> omega
theorem cmd_b {st : AS} {c rg lg : Int} {D : Int → Int} (h : tkR c (-1)) (hp : ¬ prs c) (h0 : c ≠ 91) (h1 : c < 48 ∨ 57 < c) (hh : 0 ≤ st.h) : cmdA st c rg D lg = (-1, st) := by
  have hn : need c = 0 := by
    unfold tkR prs at *
    unfold need
    rw [if_neg (by omega), if_neg (by omega)]
  have hm : missA st c = 0 := by
    unfold missA
    rw [hn, if_neg (by omega), if_neg ?_]
    rintro ⟨z, -⟩
    unfold nums at z
    unfold tkR prs at *
    omega
  unfold cmdA
  rw [hm, if_neg (by decide)]
  unfold tkR prs at *
  unfold perfA
  rw [if_neg (by omega), if_neg (by omega), if_neg (by omega), if_neg (by omega), if_neg (by omega), if_neg (by omega), if_neg (by omega), if_neg (by omega), if_neg (by omega), if_neg (by omega), if_neg (by omega), if_neg (by omega), if_neg (by omega), if_neg (by omega), if_neg (by omega), if_neg (by omega), if_neg (by omega), if_neg (by omega), if_neg (by omega), if_neg (by omega)]
theorem cmd_e {st : AS} {c rg lg : Int} {D : Int → Int} (h : st.h < need c) : cmdA st c rg D lg = (-2, st) := by
  have hm : missA st c = -2 := by unfold missA; rw [if_pos h]
  unfold cmdA
  rw [hm, if_pos (by decide)]
theorem cmd_t {st : AS} {c rg lg : Int} {D : Int → Int} (h : need c ≤ st.h) (hn : nums c) (ht : ∃ i, st.h - need c ≤ i ∧ i < st.h ∧ (st.stk i).t = 1) : cmdA st c rg D lg = (-3, st) := by
  have hm : missA st c = -3 := by unfold missA; rw [if_neg (by omega), if_pos ⟨hn, ht⟩]
  unfold cmdA
  rw [hm, if_pos (by decide)]
theorem cmd_p {st : AS} {c rg lg : Int} {D : Int → Int} (h : need c ≤ st.h) (hn : nums c → ∀ i, st.h - need c ≤ i → i < st.h → (st.stk i).t ≠ 1) : cmdA st c rg D lg = perfA st c rg D lg := by
  have hm : missA st c = 0 := by
    unfold missA
    rw [if_neg (by omega), if_neg ?_]
    rintro ⟨z, i, x, y, w⟩
    exact hn z i x y w
  unfold cmdA
  rw [hm, if_neg (by decide)]
theorem cmd_w {st : AS} {rg lg : Int} {D : Int → Int} (hh : 0 ≤ st.h) : cmdA st 0 rg D lg = (-1, st) := by
  rw [cmd_p (show need 0 ≤ st.h from hh) (fun z => by unfold nums at z; omega)]
  rfl
theorem rkA_e {c k : Int} {a b : Th} : (c = 43 → rkA c k a b = sumA a b b.v) ∧ (c = 45 → rkA c k a b = sumA a b (-b.v)) ∧ (c = 42 → rkA c k a b = mulA k a b) ∧ (c = 47 → rkA c k a b = divA k a b) ∧ (c = 37 → rkA c k a b = modA k a b) ∧ (c = 94 → rkA c k a b = powA k a b) :=
  ⟨fun h => by subst h; unfold rkA; rw [if_pos rfl],
    fun h => by subst h; unfold rkA; rw [if_neg (by decide), if_pos rfl],
    fun h => by subst h; unfold rkA; rw [if_neg (by decide), if_neg (by decide), if_pos rfl],
    fun h => by subst h; unfold rkA; rw [if_neg (by decide), if_neg (by decide), if_neg (by decide), if_pos rfl],
    fun h => by subst h; unfold rkA; rw [if_neg (by decide), if_neg (by decide), if_neg (by decide), if_neg (by decide), if_pos rfl],
    fun h => by subst h; unfold rkA; rw [if_neg (by decide), if_neg (by decide), if_neg (by decide), if_neg (by decide), if_neg (by decide)]⟩
theorem perf_e {st : AS} {c rg lg : Int} {D : Int → Int} : (rks c → perfA st c rg D lg = calcA st c) ∧ (c = 118 → perfA st c rg D lg = sqrtA st) ∧ (c = 100 → perfA st c rg D lg = pushA st (st.stk (st.h - 1))) ∧ (c = 114 → perfA st c rg D lg = swapA st) ∧ (c = 99 → perfA st c rg D lg = (0, (mkA st.inp st.il st.stk 0 st.reg st.k st.tx st.tl st.tn st.pg st.pl))) ∧ (c = 122 → perfA st c rg D lg = pushA st (mkN st.h 0)) ∧ (c = 75 → perfA st c rg D lg = pushA st (mkN st.k 0)) ∧ (c = 107 → perfA st c rg D lg = scaleA st) ∧ (c = 112 ∨ c = 110 ∨ c = 102 → perfA st c rg D lg = prtA st c) ∧ (c = 90 → perfA st c rg D lg = lenA st) ∧ (c = 88 → perfA st c rg D lg = xscA st) ∧ (c = 120 → perfA st c rg D lg = runA st) ∧ (c = 113 → perfA st c rg D lg = (0, (mkA st.inp st.il st.stk st.h st.reg st.k st.tx st.tl 0 st.pg st.pl))) :=
  ⟨fun h => by rcases h with h | h | h | h | h | h <;> (subst h; unfold perfA; rw [if_neg (by decide), if_neg (by decide), if_pos (by decide)]),
    fun h => by subst h; unfold perfA; rw [if_neg (by decide), if_neg (by decide), if_neg (by decide), if_pos (by decide)],
    fun h => by subst h; unfold perfA; rw [if_neg (by decide), if_neg (by decide), if_neg (by decide), if_neg (by decide), if_pos (by decide)],
    fun h => by subst h; unfold perfA; rw [if_neg (by decide), if_neg (by decide), if_neg (by decide), if_neg (by decide), if_neg (by decide), if_pos (by decide)],
    fun h => by subst h; unfold perfA; rw [if_neg (by decide), if_neg (by decide), if_neg (by decide), if_neg (by decide), if_neg (by decide), if_neg (by decide), if_pos (by decide)],
    fun h => by subst h; unfold perfA; rw [if_neg (by decide), if_neg (by decide), if_neg (by decide), if_neg (by decide), if_neg (by decide), if_neg (by decide), if_neg (by decide), if_pos (by decide)],
    fun h => by subst h; unfold perfA; rw [if_neg (by decide), if_neg (by decide), if_neg (by decide), if_neg (by decide), if_neg (by decide), if_neg (by decide), if_neg (by decide), if_neg (by decide), if_pos (by decide)],
    fun h => by subst h; unfold perfA; rw [if_neg (by decide), if_neg (by decide), if_neg (by decide), if_neg (by decide), if_neg (by decide), if_neg (by decide), if_neg (by decide), if_neg (by decide), if_neg (by decide), if_pos (by decide)],
    fun h => by rcases h with h | h | h; (subst h; unfold perfA; rw [if_neg (by decide), if_neg (by decide), if_neg (by decide), if_neg (by decide), if_neg (by decide), if_neg (by decide), if_neg (by decide), if_neg (by decide), if_neg (by decide), if_neg (by decide), if_pos (by decide)]; unfold prtA; rw [if_pos rfl]); (subst h; unfold perfA; rw [if_neg (by decide), if_neg (by decide), if_neg (by decide), if_neg (by decide), if_neg (by decide), if_neg (by decide), if_neg (by decide), if_neg (by decide), if_neg (by decide), if_neg (by decide), if_neg (by decide), if_pos (by decide)]; unfold prtA; rw [if_neg (by decide), if_pos rfl]); (subst h; unfold perfA; rw [if_neg (by decide), if_neg (by decide), if_neg (by decide), if_neg (by decide), if_neg (by decide), if_neg (by decide), if_neg (by decide), if_neg (by decide), if_neg (by decide), if_neg (by decide), if_neg (by decide), if_neg (by decide), if_pos (by decide)]; unfold prtA; rw [if_neg (by decide), if_neg (by decide)]),
    fun h => by subst h; unfold perfA; rw [if_neg (by decide), if_neg (by decide), if_neg (by decide), if_neg (by decide), if_neg (by decide), if_neg (by decide), if_neg (by decide), if_neg (by decide), if_neg (by decide), if_neg (by decide), if_neg (by decide), if_neg (by decide), if_neg (by decide), if_pos (by decide)],
    fun h => by subst h; unfold perfA; rw [if_neg (by decide), if_neg (by decide), if_neg (by decide), if_neg (by decide), if_neg (by decide), if_neg (by decide), if_neg (by decide), if_neg (by decide), if_neg (by decide), if_neg (by decide), if_neg (by decide), if_neg (by decide), if_neg (by decide), if_neg (by decide), if_pos (by decide)],
    fun h => by subst h; unfold perfA; rw [if_neg (by decide), if_neg (by decide), if_neg (by decide), if_neg (by decide), if_neg (by decide), if_neg (by decide), if_neg (by decide), if_neg (by decide), if_neg (by decide), if_neg (by decide), if_neg (by decide), if_neg (by decide), if_neg (by decide), if_neg (by decide), if_neg (by decide), if_neg (by decide), if_neg (by decide), if_pos (by decide)],
    fun h => by subst h; unfold perfA; rw [if_neg (by decide), if_neg (by decide), if_neg (by decide), if_neg (by decide), if_neg (by decide), if_neg (by decide), if_neg (by decide), if_neg (by decide), if_neg (by decide), if_neg (by decide), if_neg (by decide), if_neg (by decide), if_neg (by decide), if_neg (by decide), if_neg (by decide), if_neg (by decide), if_neg (by decide), if_neg (by decide), if_neg (by decide), if_pos (by decide)]⟩
theorem perf_p {st : AS} {c rg lg : Int} {D : Int → Int} : (c = 48 → perfA st c rg D lg = numA st D lg) ∧ (c = 91 → perfA st c rg D lg = txtA st D lg) ∧ (c = 115 → perfA st c rg D lg = stoA st rg) ∧ (c = 108 → perfA st c rg D lg = pushA st (st.reg rg)) ∧ (c = 60 ∨ c = 62 ∨ c = 61 → perfA st c rg D lg = choA st c rg) :=
  ⟨fun h => by subst h; unfold perfA; rw [if_pos (by decide)],
    fun h => by subst h; unfold perfA; rw [if_neg (by decide), if_pos (by decide)],
    fun h => by subst h; unfold perfA; rw [if_neg (by decide), if_neg (by decide), if_neg (by decide), if_neg (by decide), if_neg (by decide), if_neg (by decide), if_neg (by decide), if_neg (by decide), if_neg (by decide), if_neg (by decide), if_neg (by decide), if_neg (by decide), if_neg (by decide), if_neg (by decide), if_neg (by decide), if_pos (by decide)],
    fun h => by subst h; unfold perfA; rw [if_neg (by decide), if_neg (by decide), if_neg (by decide), if_neg (by decide), if_neg (by decide), if_neg (by decide), if_neg (by decide), if_neg (by decide), if_neg (by decide), if_neg (by decide), if_neg (by decide), if_neg (by decide), if_neg (by decide), if_neg (by decide), if_neg (by decide), if_neg (by decide), if_pos (by decide)],
    fun h => by rcases h with h | h | h <;> (subst h; unfold perfA; rw [if_neg (by decide), if_neg (by decide), if_neg (by decide), if_neg (by decide), if_neg (by decide), if_neg (by decide), if_neg (by decide), if_neg (by decide), if_neg (by decide), if_neg (by decide), if_neg (by decide), if_neg (by decide), if_neg (by decide), if_neg (by decide), if_neg (by decide), if_neg (by decide), if_neg (by decide), if_neg (by decide), if_pos (by decide)])⟩
