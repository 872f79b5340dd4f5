/-! one that is meant -/
noncomputable def pick (P : Int → Prop) : Int := by
  classical exact if h : ∃ x, P x then Classical.choose h else 0
theorem pick_e {P : Int → Prop} {x : Int} (h : P x) (u : ∀ y, P y → y = x) : pick P = x := by
  have hx : ∃ x, P x := ⟨x, h⟩
  unfold pick
  rw [dif_pos hx]
  exact u _ (Classical.choose_spec hx)
theorem pick_p {P : Int → Prop} (h : ∃ x, P x) : P (pick P) := by
  unfold pick
  rw [dif_pos h]
  exact Classical.choose_spec h
noncomputable def skP (D : Int → Int) (p e : Int) : Int := pick (skR D p e)
theorem skP_e {D : Int → Int} {p e q : Int} (h : skR D p e q) : skP D p e = q := pick_e h (fun _ k => skR_u k h)
noncomputable def dln (N : Int) : Int := pick (DL N)
theorem dln_e {N k : Int} (h : DL N k) : dln N = k := pick_e h (fun _ j => DL_u j h)
noncomputable def rtI (X : Int) : Int := pick (fun r => isq r X)
theorem rtI_e {X r : Int} (h : isq r X) : rtI X = r := pick_e h (fun _ j => isq_u j h)
/-! the state that both sides stand for -/
def upT {α : Type} (F : Int → α) (k : Int) (v : α) : Int → α := fun j => if j = k then v else F j
theorem upT_s {α : Type} {F : Int → α} {k : Int} {v : α} : upT F k v k = v := if_pos rfl
theorem upT_n {α : Type} {F : Int → α} {k : Int} {v : α} {j : Int} (h : j ≠ k) : upT F k v j = F j := if_neg h
abbrev AS : Type := (Int → Int) × Int × (Int → Th) × Int × (Int → Th) × Int × (Int → Int → Int) × (Int → Int) × Int × (Int → Int) × Int
def AS.inp (a : AS) : Int → Int := a.1
def AS.il (a : AS) : Int := a.2.1
def AS.stk (a : AS) : Int → Th := a.2.2.1
def AS.h (a : AS) : Int := a.2.2.2.1
def AS.reg (a : AS) : Int → Th := a.2.2.2.2.1
def AS.k (a : AS) : Int := a.2.2.2.2.2.1
def AS.tx (a : AS) : Int → Int → Int := a.2.2.2.2.2.2.1
def AS.tl (a : AS) : Int → Int := a.2.2.2.2.2.2.2.1
def AS.tn (a : AS) : Int := a.2.2.2.2.2.2.2.2.1
def AS.pg (a : AS) : Int → Int := a.2.2.2.2.2.2.2.2.2.1
def AS.pl (a : AS) : Int := a.2.2.2.2.2.2.2.2.2.2
def mkA (a0 : Int → Int) (a1 : Int) (a2 : Int → Th) (a3 : Int) (a4 : Int → Th) (a5 : Int) (a6 : Int → Int → Int) (a7 : Int → Int) (a8 : Int) (a9 : Int → Int) (a10 : Int) : AS := (a0, a1, a2, a3, a4, a5, a6, a7, a8, a9, a10)
def pushA (st : AS) (a : Th) : Int × AS := if st.h = 20 then (-8, st) else (0, (mkA st.inp st.il (upT st.stk st.h a) (st.h + 1) st.reg st.k st.tx st.tl st.tn st.pg st.pl))
def fin (Z s : Int) : Int × Th := if PW 10 60 ≤ ab Z ∨ 40 < s then (-7, mkN 0 0) else (0, mkN Z s)
def sumA (a b : Th) (w : Int) : Int × Th := fin (a.v * PW 10 (max a.sc b.sc - a.sc) + w * PW 10 (max a.sc b.sc - b.sc)) (max a.sc b.sc)
def mulA (k : Int) (a b : Th) : Int × Th := fin (tq (a.v * b.v) (PW 10 (a.sc + b.sc - min (a.sc + b.sc) (max k (max a.sc b.sc))))) (min (a.sc + b.sc) (max k (max a.sc b.sc)))
def qxA (k : Int) (a b : Th) : Int := ab a.v * PW 10 (max a.sc (k + b.sc) - a.sc)
def qyA (k : Int) (a b : Th) : Int := ab b.v * PW 10 (max a.sc (k + b.sc) - (k + b.sc))
def divA (k : Int) (a b : Th) : Int × Th := if b.v = 0 then (-5, mkN 0 0) else fin (szn (a.v * b.v) (qxA k a b / qyA k a b)) k
def modA (k : Int) (a b : Th) : Int × Th := if b.v = 0 then (-5, mkN 0 0) else if 40 < max a.sc (k + b.sc) then (-7, mkN 0 0) else fin (szn a.v (qxA k a b % qyA k a b)) (max a.sc (k + b.sc))
def powA (k : Int) (a b : Th) : Int × Th :=
  if 0 < b.sc ∨ 100 ≤ ab b.v then (-4, mkN 0 0)
  else if b.v < 0 ∧ a.v = 0 then (-5, mkN 0 0)
  else if 200 < ab b.v * a.sc ∨ PW 10 200 ≤ PW (ab a.v) (ab b.v) then (-7, mkN 0 0)
  else if b.v < 0 then fin (szn (if ab b.v % 2 = 1 then a.v else 1) (PW 10 (ab b.v * a.sc + k) / PW (ab a.v) (ab b.v))) k
  else fin (szn (if ab b.v % 2 = 1 then a.v else 1) (PW (ab a.v) (ab b.v) / PW 10 (ab b.v * a.sc - min (ab b.v * a.sc) (max k a.sc)))) (min (ab b.v * a.sc) (max k a.sc))
noncomputable def rooA (k : Int) (a : Th) : Int × Th := if a.v < 0 then (-6, mkN 0 0) else fin (rtI (a.v * PW 10 (2 * max k a.sc - a.sc))) (max k a.sc)
def rkA (c k : Int) (a b : Th) : Int × Th := if c = 43 then sumA a b b.v else if c = 45 then sumA a b (-b.v) else if c = 42 then mulA k a b else if c = 47 then divA k a b else if c = 37 then modA k a b else powA k a b
def calcA (st : AS) (c : Int) : Int × AS :=
  if (rkA c st.k (st.stk (st.h - 2)) (st.stk (st.h - 1))).1 = 0 then (0, (mkA st.inp st.il (upT st.stk (st.h - 2) (rkA c st.k (st.stk (st.h - 2)) (st.stk (st.h - 1))).2) (st.h - 1) st.reg st.k st.tx st.tl st.tn st.pg st.pl))
  else ((rkA c st.k (st.stk (st.h - 2)) (st.stk (st.h - 1))).1, st)
noncomputable def sqrtA (st : AS) : Int × AS :=
  if (rooA st.k (st.stk (st.h - 1))).1 = 0 then (0, (mkA st.inp st.il (upT st.stk (st.h - 1) (rooA st.k (st.stk (st.h - 1))).2) st.h st.reg st.k st.tx st.tl st.tn st.pg st.pl))
  else ((rooA st.k (st.stk (st.h - 1))).1, st)
def numA (st : AS) (D : Int → Int) (lg : Int) : Int × AS :=
  if PW 10 60 ≤ nuN D 0 lg.toNat ∨ 40 < nuS D 0 lg.toNat then (-7, st) else pushA st (mkN (if nuM D 0 lg.toNat = 1 then -nuN D 0 lg.toNat else nuN D 0 lg.toNat) (nuS D 0 lg.toNat))
def txtA (st : AS) (D : Int → Int) (lg : Int) : Int × AS := if 60 < lg - 2 then (-7, st) else pushA st (mkT (lg - 2) (fun j => D (1 + j)))
def swapA (st : AS) : Int × AS := (0, (mkA st.inp st.il (upT (upT st.stk (st.h - 1) (st.stk (st.h - 2))) (st.h - 2) (st.stk (st.h - 1))) st.h st.reg st.k st.tx st.tl st.tn st.pg st.pl))
def scaleA (st : AS) : Int × AS := if (st.stk (st.h - 1)).sc ≠ 0 ∨ (st.stk (st.h - 1)).v < 0 ∨ 40 < (st.stk (st.h - 1)).v then (-4, st) else (0, (mkA st.inp st.il st.stk (st.h - 1) st.reg ((st.stk (st.h - 1)).v) st.tx st.tl st.tn st.pg st.pl))
/-! printing -/
noncomputable def thL (a : Th) : Int := max (dln (ab a.v)) a.sc
noncomputable def thW (a : Th) : Int := if a.t = 1 then a.ln else if a.v = 0 then 1 else thL a + (if 0 < a.sc then 1 else 0) + (if a.v < 0 then 1 else 0)
noncomputable def thC (a : Th) (j : Int) : Int := prT a.t (if a.v < 0 then 1 else 0) a.sc a.ch (ab a.v) (thL a) j
noncomputable def prA (st : AS) (a : Th) (nl : Int) : AS := (mkA st.inp st.il st.stk st.h st.reg st.k st.tx st.tl st.tn (fun j => if j < st.pl then st.pg j else if j < st.pl + thW a then thC a (j - st.pl) else 10) (st.pl + thW a + nl))
noncomputable def prN (st : AS) (nl : Int) : Nat → AS
  | 0 => st
  | n + 1 => prA (prN st nl n) (st.stk (st.h - 1 - n)) nl
noncomputable def p1A (st : AS) : Int × AS := if 200 < (prN st 1 1).pl then (-10, st) else (0, prN st 1 1)
noncomputable def pnA (st : AS) : Int × AS := if 200 < (prN st 0 1).pl then (-10, st) else (0, (mkA (prN st 0 1).inp (prN st 0 1).il (prN st 0 1).stk (st.h - 1) (prN st 0 1).reg (prN st 0 1).k (prN st 0 1).tx (prN st 0 1).tl (prN st 0 1).tn (prN st 0 1).pg (prN st 0 1).pl))
noncomputable def pfA (st : AS) : Int × AS := if 200 < (prN st 1 st.h.toNat).pl then (-10, st) else (0, prN st 1 st.h.toNat)
noncomputable def thZ (a : Th) : Int := if a.t = 1 then a.ln else dln (ab a.v)
noncomputable def lenA (st : AS) : Int × AS := (0, (mkA st.inp st.il (upT st.stk (st.h - 1) (mkN (thZ (st.stk (st.h - 1))) 0)) st.h st.reg st.k st.tx st.tl st.tn st.pg st.pl))
def xscA (st : AS) : Int × AS := (0, (mkA st.inp st.il (upT st.stk (st.h - 1) (mkN (st.stk (st.h - 1)).sc 0)) st.h st.reg st.k st.tx st.tl st.tn st.pg st.pl))
def stoA (st : AS) (rg : Int) : Int × AS := (0, (mkA st.inp st.il st.stk (st.h - 1) (upT st.reg rg (st.stk (st.h - 1))) st.k st.tx st.tl st.tn st.pg st.pl))
/-! texts that are run: no text of spaces alone, none that begins with one -/
def blnk (D : Int → Int) (p e : Int) : Prop := ∀ j, p ≤ j → j < e → D j = 32
noncomputable def begA (st : AS) (a : Th) : Int × AS := by
  classical exact
    if a.t ≠ 1 ∨ blnk a.ch 0 a.ln then (0, st) else if st.tn = 8 then (-9, st)
    else (0, (mkA st.inp st.il st.stk st.h st.reg st.k (upT st.tx st.tn (sh a.ch (skP a.ch 0 a.ln))) (upT st.tl st.tn (a.ln - skP a.ch 0 a.ln)) (st.tn + 1) st.pg st.pl))
noncomputable def runA (st : AS) : Int × AS := by
  classical exact
    if (st.stk (st.h - 1)).t ≠ 1 then (0, st)
    else if (begA st (st.stk (st.h - 1))).1 = 0 then (0, (mkA ((begA st (st.stk (st.h - 1))).2).inp ((begA st (st.stk (st.h - 1))).2).il ((begA st (st.stk (st.h - 1))).2).stk (st.h - 1) ((begA st (st.stk (st.h - 1))).2).reg ((begA st (st.stk (st.h - 1))).2).k ((begA st (st.stk (st.h - 1))).2).tx ((begA st (st.stk (st.h - 1))).2).tl ((begA st (st.stk (st.h - 1))).2).tn ((begA st (st.stk (st.h - 1))).2).pg ((begA st (st.stk (st.h - 1))).2).pl)) else ((begA st (st.stk (st.h - 1))).1, st)
def cmpA (a b : Th) : Int := a.v * PW 10 (max a.sc b.sc - a.sc) - b.v * PW 10 (max a.sc b.sc - b.sc)
def holdsA (c : Int) (a b : Th) : Prop := if c = 60 then cmpA a b < 0 else if c = 62 then 0 < cmpA a b else cmpA a b = 0
noncomputable def choA (st : AS) (c rg : Int) : Int × AS := by
  classical exact
    if holdsA c (st.stk (st.h - 1)) (st.stk (st.h - 2)) ∧ (begA st (st.reg rg)).1 ≠ 0 then ((begA st (st.reg rg)).1, st)
    else if holdsA c (st.stk (st.h - 1)) (st.stk (st.h - 2)) then (0, (mkA ((begA st (st.reg rg)).2).inp ((begA st (st.reg rg)).2).il ((begA st (st.reg rg)).2).stk (st.h - 2) ((begA st (st.reg rg)).2).reg ((begA st (st.reg rg)).2).k ((begA st (st.reg rg)).2).tx ((begA st (st.reg rg)).2).tl ((begA st (st.reg rg)).2).tn ((begA st (st.reg rg)).2).pg ((begA st (st.reg rg)).2).pl))
    else (0, (mkA st.inp st.il st.stk (st.h - 2) st.reg st.k st.tx st.tl st.tn st.pg st.pl))
/-! commands -/
def need (c : Int) : Int := if c = 43 ∨ c = 45 ∨ c = 42 ∨ c = 47 ∨ c = 37 ∨ c = 94 ∨ c = 114 ∨ c = 60 ∨ c = 62 ∨ c = 61 then 2 else if c = 118 ∨ c = 100 ∨ c = 107 ∨ c = 112 ∨ c = 110 ∨ c = 90 ∨ c = 88 ∨ c = 115 ∨ c = 120 then 1 else 0
def nums (c : Int) : Prop := c = 43 ∨ c = 45 ∨ c = 42 ∨ c = 47 ∨ c = 37 ∨ c = 94 ∨ c = 118 ∨ c = 107 ∨ c = 60 ∨ c = 62 ∨ c = 61
noncomputable def missA (st : AS) (c : Int) : Int := by
  classical exact if st.h < need c then -2 else if nums c ∧ ∃ i, st.h - need c ≤ i ∧ i < st.h ∧ (st.stk i).t = 1 then -3 else 0
noncomputable def perfA (st : AS) (c rg : Int) (D : Int → Int) (lg : Int) : Int × AS :=
  if c = 48 then numA st D lg
  else if c = 91 then txtA st D lg
  else if c = 43 ∨ c = 45 ∨ c = 42 ∨ c = 47 ∨ c = 37 ∨ c = 94 then calcA st c
  else if c = 118 then sqrtA st
  else if c = 100 then pushA st (st.stk (st.h - 1))
  else if c = 114 then swapA st
  else if c = 99 then (0, (mkA st.inp st.il st.stk 0 st.reg st.k st.tx st.tl st.tn st.pg st.pl))
  else if c = 122 then pushA st (mkN st.h 0)
  else if c = 75 then pushA st (mkN st.k 0)
  else if c = 107 then scaleA st
  else if c = 112 then p1A st
  else if c = 110 then pnA st
  else if c = 102 then pfA st
  else if c = 90 then lenA st
  else if c = 88 then xscA st
  else if c = 115 then stoA st rg
  else if c = 108 then pushA st (st.reg rg)
  else if c = 120 then runA st
  else if c = 60 ∨ c = 62 ∨ c = 61 then choA st c rg
  else if c = 113 then (0, (mkA st.inp st.il st.stk st.h st.reg st.k st.tx st.tl 0 st.pg st.pl))
  else (-1, st)
noncomputable def cmdA (st : AS) (c rg : Int) (D : Int → Int) (lg : Int) : Int × AS := if missA st c ≠ 0 then (missA st c, st) else perfA st c rg D lg
