/-! what the law needs of the two sides: worlds as lists that keep what they stand for -/
def drpA (st : AS) : AS := mkA st.inp 0 st.stk st.h st.reg st.k st.tx st.tl 0 st.pg st.pl
def terA (st : AS) : AS := mkA st.inp st.il st.stk st.h st.reg st.k st.tx st.tl st.tn st.pg 0
def cptA (st : AS) (p : Int) : Int := if 0 ≤ p ∧ p < st.pl then st.pg p else 0
theorem cptA_of {Q : Int → Int} {pl p z : Int} {st : AS} (h : MG Q pl st) (hp : (0 ≤ p ∧ p < pl ∧ z = Q p) ∨ ((p < 0 ∨ pl ≤ p) ∧ z = 0)) : z = cptA st p := by
  unfold cptA
  have e := h.1.1
  rcases hp with ⟨h0, h1, h2⟩ | ⟨h0, h1⟩
  · rw [if_pos ⟨h0, by omega⟩, h2]; exact (h.2 p h0 h1).1
  · rw [if_neg (by omega)]; exact h1
theorem Met_mono {l : Launch} {y : MethodName} {ws : List Cond} {rm : Room} {Pc : Array Value → State → Prop} {Qc Qd : Array Value → State → Outcome → State → Prop} {mc ms : Nat} {free : Addr → Prop} (h : Met l y ws rm Pc Qc mc ms free) (k : ∀ a s o t, Qc a s o t → Qd a s o t) : Met l y ws rm Pc Qd mc ms free := by
  intro p e h1 h2 h3 s m args below h4 h5 h6 h7
  obtain ⟨n, o, k1, k2, k3, k4, k5⟩ := h p e h1 h2 h3 s m args below h4 h5 h6 h7
  exact ⟨n, o, k1, k2, k3, k _ _ _ _ k4, k5⟩
theorem QI_pk {D : va_G} {cl : List vw_C} {tys : List (ClassId × FieldType)} {S : Type} {post : Int → S → Prop} {w1 : S → va_W} {A : Nat → Prop} {a : Array Value} {s t : State} {o : Outcome} {post' : Int → va_W → Prop} (q : QI D cl tys post w1 A a s o t) (h : ∀ z u, post z u → post' z (w1 u)) : QI D cl tys post' (fun w => w) A a s o t := by
  obtain ⟨⟨r, u, ho, ⟨z, hz, hp⟩, hB⟩, hF⟩ := q
  exact ⟨⟨r, w1 u, ho, ⟨z, hz, h z u hp⟩, hB⟩, hF⟩

def CW (dA : Nat → ClassId) (b : Nat) (st : AS) (w : va_W) : Prop := ∃ (tr : Int) (hg : Int) (wk : Int) (at_ : Int) (en : Int) (cm : Int) (rg : Int) (st0 : Int) (en0 : Int) (lg : Int) (tR : Int) (ngR : Int) (scR : Int) (lnR : Int) (uR : Int) (lu : Int) (ru : Int) (su : Int) (qu : Int) (pl : Int) (rv : Value) (si : Int → Nat) (D : Int → Int) (CR : Int → Int) (FR : Int → Int) (LF : Int → Int) (RF : Int → Int) (SF : Int → Int) (QF : Int → Int) (P : Int → Int) (vs : Nat → VS) (tp : Nat → TS), w = wMr dA b tr hg wk at_ en cm rg st0 en0 lg tR ngR scR lnR uR lu ru su qu pl rv si D CR FR LF RF SF QF P (tl0 dA b vs tp) ∧ CH si vs hg wk st ∧ CX tp tr st ∧ MG P pl st ∧ CIx D at_ en st ∧ 0 ≤ cm ∧ cm < 65536
theorem CW_i {dA : Nat → ClassId} {b : Nat} {tr : Int} {hg : Int} {wk : Int} {at_ : Int} {en : Int} {cm : Int} {rg : Int} {st0 : Int} {en0 : Int} {lg : Int} {tR : Int} {ngR : Int} {scR : Int} {lnR : Int} {uR : Int} {lu : Int} {ru : Int} {su : Int} {qu : Int} {pl : Int} {rv : Value} {si : Int → Nat} {D : Int → Int} {CR : Int → Int} {FR : Int → Int} {LF : Int → Int} {RF : Int → Int} {SF : Int → Int} {QF : Int → Int} {P : Int → Int} {vs : Nat → VS} {tp : Nat → TS} {st : AS} (h1 : CH si vs hg wk st) (h2 : CX tp tr st) (h3 : MG P pl st) (h4 : CIx D at_ en st) (h5 : 0 ≤ cm ∧ cm < 65536) : CW dA b st (wMr dA b tr hg wk at_ en cm rg st0 en0 lg tR ngR scR lnR uR lu ru su qu pl rv si D CR FR LF RF SF QF P (tl0 dA b vs tp)) := ⟨tr, hg, wk, at_, en, cm, rg, st0, en0, lg, tR, ngR, scR, lnR, uR, lu, ru, su, qu, pl, rv, si, D, CR, FR, LF, RF, SF, QF, P, vs, tp, rfl, h1, h2, h3, h4, h5⟩
theorem CW_hd {dA : Nat → ClassId} {b : Nat} {st : AS} {w : va_W} (h : CW dA b st w) : ∃ fs : List Value, w[0]? = some (b, .inr (6, fs)) := by
  obtain ⟨tr, hg, wk, at_, en, cm, rg, st0, en0, lg, tR, ngR, scR, lnR, uR, lu, ru, su, qu, pl, rv, si, D, CR, FR, LF, RF, SF, QF, P, vs, tp, rfl, -⟩ := h
  exact ⟨_, rfl⟩
def MW (dA : Nat → ClassId) (mo : Nat) (ft : Int) (st : AS) (w : va_W) : Prop := ∃ (lf : Int) (hg : Int) (kk : Int) (tx : Int) (pn : Int) (tk : Int) (fm : Int) (tO : Int) (tl : Int) (mI : Int → Int) (mT : Int → Int) (mS : Int → Int) (mC : Int → Int) (mL : Int → Int) (mB : Int → Int) (mF : Int → Int) (mU : Int → Int) (mX : Int → Int) (mP : Int → Int) (mK : Int → Int) (mD : Int → Int) (mZ : Int → Int), w = wMo dA mo ft lf hg kk tx pn tk fm tO tl mI mT mS mC mL mB mF mU mX mP mK mD mZ [] ∧ MA mT mS mC mL mB hg kk mF mU mX tx mP pn st ∧ MIx mI lf st
theorem MW_i {dA : Nat → ClassId} {mo : Nat} {f0 : Int} {ft : Int} {lf : Int} {hg : Int} {kk : Int} {tx : Int} {pn : Int} {tk : Int} {fm : Int} {tO : Int} {tl : Int} {mI : Int → Int} {mT : Int → Int} {mS : Int → Int} {mC : Int → Int} {mL : Int → Int} {mB : Int → Int} {mF : Int → Int} {mU : Int → Int} {mX : Int → Int} {mP : Int → Int} {mK : Int → Int} {mD : Int → Int} {mZ : Int → Int} {st : AS} (h0 : ft = f0) (h1 : MA mT mS mC mL mB hg kk mF mU mX tx mP pn st) (h2 : MIx mI lf st) : MW dA mo f0 st (wMo dA mo ft lf hg kk tx pn tk fm tO tl mI mT mS mC mL mB mF mU mX mP mK mD mZ []) := by
  subst h0
  exact ⟨lf, hg, kk, tx, pn, tk, fm, tO, tl, mI, mT, mS, mC, mL, mB, mF, mU, mX, mP, mK, mD, mZ, rfl, h1, h2⟩
theorem MW_hd {dA : Nat → ClassId} {mo : Nat} {ft : Int} {st : AS} {w : va_W} (h : MW dA mo ft st w) : ∃ fs : List Value, w[0]? = some (mo, .inr (7, fs)) := by
  obtain ⟨lf, hg, kk, tx, pn, tk, fm, tO, tl, mI, mT, mS, mC, mL, mB, mF, mU, mX, mP, mK, mD, mZ, rfl, -⟩ := h
  exact ⟨_, rfl⟩
theorem pMr_type (l : Launch) (dC : Nat → ClassId) (dI : Nat → Nat → Nat) (dA : Nat → ClassId) (dS : Nat → Nat) (b : Nat) (ch : Int) (st : AS) (w : va_W) (hw : CW dA b st w) (hch : 0 ≤ ch ∧ ch < 65536) (sz : Nat) : Met l yMr_type wsMr_type rmMr_type (PC (dC, dI) vwCl (tyA dA) (XC dS) [.ref b, .int (iI ch)] w sz) (QI (dC, dI) vwCl (tyA dA) (fun (r : Int) (w1 : va_W) => r = (typA st ch).1 ∧ CW dA b (typA st ch).2 w1) (fun w1 => w1) (va_A w sz)) 0 0 (va_A w sz) := by
  obtain ⟨tr, hg, wk, at_, en, cm, rg, st0, en0, lg, tR, ngR, scR, lnR, uR, lu, ru, su, qu, pl, rv, si, D, CR, FR, LF, RF, SF, QF, P, vs, tp, rfl, hCH, hCX, hMG, hCI, hcm⟩ := hw
  have hq : CH si vs hg wk (typA st ch).2 ∧ CX tp tr (typA st ch).2 ∧ MG P pl (typA st ch).2 := by unfold typA; split <;> exact ⟨hCH, hCX, hMG⟩
  exact Met_mono (cMr_type l dC dI dA dS b tr hg wk at_ en cm rg st0 en0 lg tR ngR scR lnR uR lu ru su qu pl rv si D CR FR LF RF SF QF P vs tp st ch hCI hch sz) (fun a s o t q => QI_pk q (fun z u hp => ⟨hp.1, CW_i hq.1 hq.2.1 hq.2.2 hp.2 hcm⟩))

theorem pMr_run (l : Launch) (dC : Nat → ClassId) (dI : Nat → Nat → Nat) (dA : Nat → ClassId) (dS : Nat → Nat) (b : Nat) (ad : Nat → Nat) (n0 : Int) (st : AS) (w : va_W) (hw : CW dA b st w) (hn0 : 1 ≤ n0 ∧ n0 ≤ 100) (sz : Nat) : Met l yMr_run wsMr_run rmMr_run (PC (dC, dI) vwCl (tyA dA) (XM dS ad) [.ref b, .int (iI n0)] w sz) (QI (dC, dI) vwCl (tyA dA) (fun (r : Int) (w1 : va_W) => r = ansA (lopA (strA st) n0.toNat) ∧ CW dA b (lopA (strA st) n0.toNat).2 w1) (fun w1 => w1) (va_A w sz)) 0 0 (va_A w sz) := by
  obtain ⟨tr, hg, wk, at_, en, cm, rg, st0, en0, lg, tR, ngR, scR, lnR, uR, lu, ru, su, qu, pl, rv, si, D, CR, FR, LF, RF, SF, QF, P, vs, tp, rfl, hCH, hCX, hMG, hCI, hcm⟩ := hw
  exact Met_mono (cMr_run l dC dI dA dS b tr hg wk at_ en cm rg st0 en0 lg tR ngR scR lnR uR lu ru su qu pl rv si D CR FR LF RF SF QF P vs tp ad st n0 hCH hCX hMG hCI hcm hn0 sz) (fun a s o t q => QI_pk q (fun z u hp => ⟨hp.1, CW_i hp.2.1 hp.2.2.1 hp.2.2.2.1 hp.2.2.2.2.1 hp.2.2.2.2.2⟩))

theorem pMr_drop (l : Launch) (dC : Nat → ClassId) (dI : Nat → Nat → Nat) (dA : Nat → ClassId) (dS : Nat → Nat) (b : Nat) (st : AS) (w : va_W) (hw : CW dA b st w)  (sz : Nat) : Met l yMr_drop wsMr_drop rmMr_drop (PC (dC, dI) vwCl (tyA dA) (XC dS) [.ref b] w sz) (QI (dC, dI) vwCl (tyA dA) (fun (r : Int) (w1 : va_W) => r = st.il ∧ CW dA b (drpA st) w1) (fun w1 => w1) (va_A w sz)) 0 0 (va_A w sz) := by
  obtain ⟨tr, hg, wk, at_, en, cm, rg, st0, en0, lg, tR, ngR, scR, lnR, uR, lu, ru, su, qu, pl, rv, si, D, CR, FR, LF, RF, SF, QF, P, vs, tp, rfl, hCH, hCX, hMG, hCI, hcm⟩ := hw
  exact Met_mono (cMr_drop l dC dI dA dS b tr hg wk at_ en cm rg st0 en0 lg tR ngR scR lnR uR lu ru su qu pl rv si D CR FR LF RF SF QF P vs tp sz) (fun a s o t q => QI_pk q (fun z u hp => ⟨hp.trans hCI.2.1.symm, CW_i (show CH si vs hg wk (drpA st) from hCH) (show CX tp 0 (drpA st) from ⟨⟨Int.le_refl _, Int.le_refl _, by decide⟩, fun i x y => absurd y (Int.not_lt.mpr x), fun i x y => absurd y (Int.not_lt.mpr x)⟩) (show MG P pl (drpA st) from hMG) (show CIx D 0 0 (drpA st) from ⟨⟨by decide, by decide, by decide, by decide, fun j x y => absurd y (Int.not_lt.mpr x)⟩, rfl, fun j x y => absurd y (Int.not_lt.mpr x)⟩) hcm⟩))

theorem pMr_depth (l : Launch) (dC : Nat → ClassId) (dI : Nat → Nat → Nat) (dA : Nat → ClassId) (dS : Nat → Nat) (b : Nat) (st : AS) (w : va_W) (hw : CW dA b st w)  (sz : Nat) : Met l yMr_depth wsMr_depth rmMr_depth (PC (dC, dI) vwCl (tyA dA) (XC dS) [.ref b] w sz) (QI (dC, dI) vwCl (tyA dA) (fun (r : Int) (w1 : va_W) => r = st.h ∧ CW dA b st w1) (fun w1 => w1) (va_A w sz)) 0 0 (va_A w sz) := by
  obtain ⟨tr, hg, wk, at_, en, cm, rg, st0, en0, lg, tR, ngR, scR, lnR, uR, lu, ru, su, qu, pl, rv, si, D, CR, FR, LF, RF, SF, QF, P, vs, tp, rfl, hCH, hCX, hMG, hCI, hcm⟩ := hw
  exact Met_mono (cMr_depth l dC dI dA dS b tr hg wk at_ en cm rg st0 en0 lg tR ngR scR lnR uR lu ru su qu pl rv si D CR FR LF RF SF QF P vs tp sz) (fun a s o t q => QI_pk q (fun z u hp => ⟨hp.trans hCH.1.1, CW_i hCH hCX hMG hCI hcm⟩))

theorem pMr_scale (l : Launch) (dC : Nat → ClassId) (dI : Nat → Nat → Nat) (dA : Nat → ClassId) (dS : Nat → Nat) (b : Nat) (st : AS) (w : va_W) (hw : CW dA b st w)  (sz : Nat) : Met l yMr_scale wsMr_scale rmMr_scale (PC (dC, dI) vwCl (tyA dA) (XC dS) [.ref b] w sz) (QI (dC, dI) vwCl (tyA dA) (fun (r : Int) (w1 : va_W) => r = st.k ∧ CW dA b st w1) (fun w1 => w1) (va_A w sz)) 0 0 (va_A w sz) := by
  obtain ⟨tr, hg, wk, at_, en, cm, rg, st0, en0, lg, tR, ngR, scR, lnR, uR, lu, ru, su, qu, pl, rv, si, D, CR, FR, LF, RF, SF, QF, P, vs, tp, rfl, hCH, hCX, hMG, hCI, hcm⟩ := hw
  exact Met_mono (cMr_scale l dC dI dA dS b tr hg wk at_ en cm rg st0 en0 lg tR ngR scR lnR uR lu ru su qu pl rv si D CR FR LF RF SF QF P vs tp sz) (fun a s o t q => QI_pk q (fun z u hp => ⟨hp.trans hCH.2.1.1, CW_i hCH hCX hMG hCI hcm⟩))

theorem pMr_running (l : Launch) (dC : Nat → ClassId) (dI : Nat → Nat → Nat) (dA : Nat → ClassId) (dS : Nat → Nat) (b : Nat) (st : AS) (w : va_W) (hw : CW dA b st w)  (sz : Nat) : Met l yMr_running wsMr_running rmMr_running (PC (dC, dI) vwCl (tyA dA) (XC dS) [.ref b] w sz) (QI (dC, dI) vwCl (tyA dA) (fun (r : Int) (w1 : va_W) => r = st.tn ∧ CW dA b st w1) (fun w1 => w1) (va_A w sz)) 0 0 (va_A w sz) := by
  obtain ⟨tr, hg, wk, at_, en, cm, rg, st0, en0, lg, tR, ngR, scR, lnR, uR, lu, ru, su, qu, pl, rv, si, D, CR, FR, LF, RF, SF, QF, P, vs, tp, rfl, hCH, hCX, hMG, hCI, hcm⟩ := hw
  exact Met_mono (cMr_running l dC dI dA dS b tr hg wk at_ en cm rg st0 en0 lg tR ngR scR lnR uR lu ru su qu pl rv si D CR FR LF RF SF QF P vs tp st hCX sz) (fun a s o t q => QI_pk q (fun z u hp => ⟨hp.1, CW_i hCH (show CX tp u st by rw [hp.2]; exact ⟨⟨hCX.1.1, Int.le_refl _, by have := hCX.1; omega⟩, hCX.2.1, fun i x y => absurd y (Int.not_lt.mpr x)⟩) hMG hCI hcm⟩))

theorem pMr_isText (l : Launch) (dC : Nat → ClassId) (dI : Nat → Nat → Nat) (dA : Nat → ClassId) (dS : Nat → Nat) (b : Nat) (ad : Nat → Nat) (ch : Int) (st : AS) (w : va_W) (hw : CW dA b st w) (hch : 97 ≤ ch ∧ ch ≤ 122) (sz : Nat) : Met l yMr_isText wsMr_isText rmMr_isText (PC (dC, dI) vwCl (tyA dA) (XM dS ad) [.ref b, .int (iI ch)] w sz) (QI (dC, dI) vwCl (tyA dA) (fun (r : Int) (w1 : va_W) => r = (st.reg (ch - 97)).t ∧ (r = 0 ∨ r = 1) ∧ CW dA b st w1) (fun w1 => w1) (va_A w sz)) 0 0 (va_A w sz) := by
  obtain ⟨tr, hg, wk, at_, en, cm, rg, st0, en0, lg, tR, ngR, scR, lnR, uR, lu, ru, su, qu, pl, rv, si, D, CR, FR, LF, RF, SF, QF, P, vs, tp, rfl, hCH, hCX, hMG, hCI, hcm⟩ := hw
  exact Met_mono (cMr_isText l dC dI dA dS b tr hg wk at_ en cm rg st0 en0 lg tR ngR scR lnR uR lu ru su qu pl rv si D CR FR LF RF SF QF P vs tp ad st ch hCH hch sz) (fun a s o t q => QI_pk q (fun z u hp => ⟨hp.1, hp.2, CW_i hCH hCX hMG hCI hcm⟩))

theorem pMr_printed (l : Launch) (dC : Nat → ClassId) (dI : Nat → Nat → Nat) (dA : Nat → ClassId) (dS : Nat → Nat) (b : Nat) (st : AS) (w : va_W) (hw : CW dA b st w)  (sz : Nat) : Met l yMr_printed wsMr_printed rmMr_printed (PC (dC, dI) vwCl (tyA dA) (XC dS) [.ref b] w sz) (QI (dC, dI) vwCl (tyA dA) (fun (r : Int) (w1 : va_W) => r = st.pl ∧ CW dA b st w1) (fun w1 => w1) (va_A w sz)) 0 0 (va_A w sz) := by
  obtain ⟨tr, hg, wk, at_, en, cm, rg, st0, en0, lg, tR, ngR, scR, lnR, uR, lu, ru, su, qu, pl, rv, si, D, CR, FR, LF, RF, SF, QF, P, vs, tp, rfl, hCH, hCX, hMG, hCI, hcm⟩ := hw
  exact Met_mono (cMr_printed l dC dI dA dS b tr hg wk at_ en cm rg st0 en0 lg tR ngR scR lnR uR lu ru su qu pl rv si D CR FR LF RF SF QF P vs tp sz) (fun a s o t q => QI_pk q (fun z u hp => ⟨hp.trans hMG.1.1, CW_i hCH hCX hMG hCI hcm⟩))

theorem pMr_charAt (l : Launch) (dC : Nat → ClassId) (dI : Nat → Nat → Nat) (dA : Nat → ClassId) (dS : Nat → Nat) (b : Nat) (p9 : Int) (st : AS) (w : va_W) (hw : CW dA b st w) (hp9 : r32 p9) (sz : Nat) : Met l yMr_charAt wsMr_charAt rmMr_charAt (PC (dC, dI) vwCl (tyA dA) (XC dS) [.ref b, .int (iI p9)] w sz) (QI (dC, dI) vwCl (tyA dA) (fun (r : Int) (w1 : va_W) => r = cptA st p9 ∧ CW dA b st w1) (fun w1 => w1) (va_A w sz)) 0 0 (va_A w sz) := by
  obtain ⟨tr, hg, wk, at_, en, cm, rg, st0, en0, lg, tR, ngR, scR, lnR, uR, lu, ru, su, qu, pl, rv, si, D, CR, FR, LF, RF, SF, QF, P, vs, tp, rfl, hCH, hCX, hMG, hCI, hcm⟩ := hw
  exact Met_mono (cMr_charAt l dC dI dA dS b tr hg wk at_ en cm rg st0 en0 lg tR ngR scR lnR uR lu ru su qu pl rv si D CR FR LF RF SF QF P vs tp p9 hp9 hMG.1.2 (fun j x y => (hMG.2 j x y).2) sz) (fun a s o t q => QI_pk q (fun z u hp => ⟨cptA_of hMG hp, CW_i hCH hCX hMG hCI hcm⟩))

theorem pMr_tear (l : Launch) (dC : Nat → ClassId) (dI : Nat → Nat → Nat) (dA : Nat → ClassId) (dS : Nat → Nat) (b : Nat) (st : AS) (w : va_W) (hw : CW dA b st w)  (sz : Nat) : Met l yMr_tear wsMr_tear rmMr_tear (PC (dC, dI) vwCl (tyA dA) (XC dS) [.ref b] w sz) (QI (dC, dI) vwCl (tyA dA) (fun (r : Int) (w1 : va_W) => r = st.pl ∧ CW dA b (terA st) w1) (fun w1 => w1) (va_A w sz)) 0 0 (va_A w sz) := by
  obtain ⟨tr, hg, wk, at_, en, cm, rg, st0, en0, lg, tR, ngR, scR, lnR, uR, lu, ru, su, qu, pl, rv, si, D, CR, FR, LF, RF, SF, QF, P, vs, tp, rfl, hCH, hCX, hMG, hCI, hcm⟩ := hw
  exact Met_mono (cMr_tear l dC dI dA dS b tr hg wk at_ en cm rg st0 en0 lg tR ngR scR lnR uR lu ru su qu pl rv si D CR FR LF RF SF QF P vs tp sz) (fun a s o t q => QI_pk q (fun z u hp => ⟨hp.trans hMG.1.1, CW_i (show CH si vs hg wk (terA st) from hCH) (show CX tp tr (terA st) from hCX) (show MG P 0 (terA st) from ⟨⟨rfl, by decide, by decide⟩, fun j x y => absurd y (Int.not_lt.mpr x)⟩) (show CIx D at_ en (terA st) from hCI) hcm⟩))

theorem pMo_type (l : Launch) (dC : Nat → ClassId) (dI : Nat → Nat → Nat) (dA : Nat → ClassId) (mo : Nat) (ch : Int) (ft : Int) (st : AS) (w : va_W) (hw : MW dA mo ft st w) (hch : 0 ≤ ch ∧ ch < 65536) (sz : Nat) : Met l yMo_type wsMo_type rmMo_type (PC (dC, dI) vwCl (tyA dA) XN [.ref mo, .int (iI ch)] w sz) (QI (dC, dI) vwCl (tyA dA) (fun (r : Int) (w1 : va_W) => r = (typA st ch).1 ∧ MW dA mo 0 (typA st ch).2 w1) (fun w1 => w1) (va_A w sz)) 0 0 (va_A w sz) := by
  obtain ⟨lf, hg, kk, tx, pn, tk, fm, tO, tl, mI, mT, mS, mC, mL, mB, mF, mU, mX, mP, mK, mD, mZ, rfl, hMA, hMI⟩ := hw
  have hq : MA mT mS mC mL mB hg kk mF mU mX tx mP pn (typA st ch).2 := by unfold typA; split <;> exact hMA
  exact Met_mono (cMo_type l dC dI dA mo ft lf hg kk tx pn tk fm tO tl mI mT mS mC mL mB mF mU mX mP mK mD mZ st ch hMI hch sz) (fun a s o t q => QI_pk q (fun z u hp => ⟨hp.1, MW_i rfl hq hp.2⟩))

theorem pMo_run (l : Launch) (dC : Nat → ClassId) (dI : Nat → Nat → Nat) (dA : Nat → ClassId) (mo : Nat) (n0 : Int) (ft : Int) (st : AS) (w : va_W) (hw : MW dA mo ft st w) (hn0 : r32 n0) (sz : Nat) : Met l yMo_run wsMo_run rmMo_run (PC (dC, dI) vwCl (tyA dA) XN [.ref mo, .int (iI n0)] w sz) (QI (dC, dI) vwCl (tyA dA) (fun (r : Int) (w1 : va_W) => ((n0 < 1 ∨ 100 < n0) ∧ r = 0 ∧ MW dA mo 1 st w1) ∨ (1 ≤ n0 ∧ n0 ≤ 100 ∧ r = ansA (lopA (strA st) n0.toNat) ∧ MW dA mo 0 (lopA (strA st) n0.toNat).2 w1)) (fun w1 => w1) (va_A w sz)) 0 0 (va_A w sz) := by
  obtain ⟨lf, hg, kk, tx, pn, tk, fm, tO, tl, mI, mT, mS, mC, mL, mB, mF, mU, mX, mP, mK, mD, mZ, rfl, hMA, hMI⟩ := hw
  exact Met_mono (cMo_run l dC dI dA mo ft lf hg kk tx pn tk fm tO tl mI mT mS mC mL mB mF mU mX mP mK mD mZ st n0 hMA hMI hn0 sz) (fun a s o t q => QI_pk q (fun z u hp => (by
    rcases hp with ⟨h1, h2, h3, h4, h5⟩ | ⟨h1, h2, h3, h4, h5, h6⟩
    · exact Or.inl ⟨h1, h3, MW_i h2 h4 h5⟩
    · exact Or.inr ⟨h1, h2, h4, MW_i h3 h5 h6⟩)))

theorem pMo_drop (l : Launch) (dC : Nat → ClassId) (dI : Nat → Nat → Nat) (dA : Nat → ClassId) (mo : Nat) (ft : Int) (st : AS) (w : va_W) (hw : MW dA mo ft st w)  (sz : Nat) : Met l yMo_drop wsMo_drop rmMo_drop (PC (dC, dI) vwCl (tyA dA) XN [.ref mo] w sz) (QI (dC, dI) vwCl (tyA dA) (fun (r : Int) (w1 : va_W) => r = st.il ∧ MW dA mo 0 (drpA st) w1) (fun w1 => w1) (va_A w sz)) 0 0 (va_A w sz) := by
  obtain ⟨lf, hg, kk, tx, pn, tk, fm, tO, tl, mI, mT, mS, mC, mL, mB, mF, mU, mX, mP, mK, mD, mZ, rfl, hMA, hMI⟩ := hw
  exact Met_mono (cMo_drop l dC dI dA mo ft lf hg kk tx pn tk fm tO tl mI mT mS mC mL mB mF mU mX mP mK mD mZ sz) (fun a s o t q => QI_pk q (fun z u hp => ⟨(show z = st.il by have h9 := hMI.2.2.1; have h8 : z = lf := hp; omega), MW_i rfl (show MA mT mS mC mL mB hg kk mF mU mX 0 mP pn (drpA st) from ⟨hMA.1, ⟨⟨rfl, by decide, by decide⟩, fun i x y => absurd y (Int.not_lt.mpr x)⟩, hMA.2.2⟩) (show MIx mI 0 (drpA st) from ⟨⟨by decide, by decide⟩, fun j x y => absurd y (Int.not_lt.mpr x), rfl, fun j x y => absurd y (Int.not_lt.mpr x)⟩)⟩))

theorem pMo_depth (l : Launch) (dC : Nat → ClassId) (dI : Nat → Nat → Nat) (dA : Nat → ClassId) (mo : Nat) (ft : Int) (st : AS) (w : va_W) (hw : MW dA mo ft st w)  (sz : Nat) : Met l yMo_depth wsMo_depth rmMo_depth (PC (dC, dI) vwCl (tyA dA) XN [.ref mo] w sz) (QI (dC, dI) vwCl (tyA dA) (fun (r : Int) (w1 : va_W) => r = st.h ∧ MW dA mo 0 st w1) (fun w1 => w1) (va_A w sz)) 0 0 (va_A w sz) := by
  obtain ⟨lf, hg, kk, tx, pn, tk, fm, tO, tl, mI, mT, mS, mC, mL, mB, mF, mU, mX, mP, mK, mD, mZ, rfl, hMA, hMI⟩ := hw
  exact Met_mono (cMo_depth l dC dI dA mo ft lf hg kk tx pn tk fm tO tl mI mT mS mC mL mB mF mU mX mP mK mD mZ sz) (fun a s o t q => QI_pk q (fun z u hp => ⟨hp.trans hMA.1.1.1, MW_i rfl hMA hMI⟩))

theorem pMo_scale (l : Launch) (dC : Nat → ClassId) (dI : Nat → Nat → Nat) (dA : Nat → ClassId) (mo : Nat) (ft : Int) (st : AS) (w : va_W) (hw : MW dA mo ft st w)  (sz : Nat) : Met l yMo_scale wsMo_scale rmMo_scale (PC (dC, dI) vwCl (tyA dA) XN [.ref mo] w sz) (QI (dC, dI) vwCl (tyA dA) (fun (r : Int) (w1 : va_W) => r = st.k ∧ MW dA mo 0 st w1) (fun w1 => w1) (va_A w sz)) 0 0 (va_A w sz) := by
  obtain ⟨lf, hg, kk, tx, pn, tk, fm, tO, tl, mI, mT, mS, mC, mL, mB, mF, mU, mX, mP, mK, mD, mZ, rfl, hMA, hMI⟩ := hw
  exact Met_mono (cMo_scale l dC dI dA mo ft lf hg kk tx pn tk fm tO tl mI mT mS mC mL mB mF mU mX mP mK mD mZ sz) (fun a s o t q => QI_pk q (fun z u hp => ⟨hp.trans hMA.1.2.1.1, MW_i rfl hMA hMI⟩))

theorem pMo_running (l : Launch) (dC : Nat → ClassId) (dI : Nat → Nat → Nat) (dA : Nat → ClassId) (mo : Nat) (ft : Int) (st : AS) (w : va_W) (hw : MW dA mo ft st w)  (sz : Nat) : Met l yMo_running wsMo_running rmMo_running (PC (dC, dI) vwCl (tyA dA) XN [.ref mo] w sz) (QI (dC, dI) vwCl (tyA dA) (fun (r : Int) (w1 : va_W) => r = st.tn ∧ MW dA mo 0 st w1) (fun w1 => w1) (va_A w sz)) 0 0 (va_A w sz) := by
  obtain ⟨lf, hg, kk, tx, pn, tk, fm, tO, tl, mI, mT, mS, mC, mL, mB, mF, mU, mX, mP, mK, mD, mZ, rfl, hMA, hMI⟩ := hw
  exact Met_mono (cMo_running l dC dI dA mo ft lf hg kk tx pn tk fm tO tl mI mT mS mC mL mB mF mU mX mP mK mD mZ sz) (fun a s o t q => QI_pk q (fun z u hp => ⟨hp.trans hMA.2.1.1.1, MW_i rfl hMA hMI⟩))

theorem pMo_isText (l : Launch) (dC : Nat → ClassId) (dI : Nat → Nat → Nat) (dA : Nat → ClassId) (mo : Nat) (ch : Int) (ft : Int) (st : AS) (w : va_W) (hw : MW dA mo ft st w) (hch : 0 ≤ ch ∧ ch < 65536) (sz : Nat) : Met l yMo_isText wsMo_isText rmMo_isText (PC (dC, dI) vwCl (tyA dA) XN [.ref mo, .int (iI ch)] w sz) (QI (dC, dI) vwCl (tyA dA) (fun (r : Int) (w1 : va_W) => (97 ≤ ch ∧ ch ≤ 122 ∧ r = (st.reg (ch - 97)).t ∧ (r = 0 ∨ r = 1) ∧ MW dA mo 0 st w1) ∨ ((ch < 97 ∨ 122 < ch) ∧ r = 0 ∧ MW dA mo 1 st w1)) (fun w1 => w1) (va_A w sz)) 0 0 (va_A w sz) := by
  obtain ⟨lf, hg, kk, tx, pn, tk, fm, tO, tl, mI, mT, mS, mC, mL, mB, mF, mU, mX, mP, mK, mD, mZ, rfl, hMA, hMI⟩ := hw
  exact Met_mono (cMo_isText l dC dI dA mo ft lf hg kk tx pn tk fm tO tl mI mT mS mC mL mB mF mU mX mP mK mD mZ ch hch (fun i x y => (MT_b (hMA.1.2.2.1 i x y)).1) sz) (fun a s o t q => QI_pk q (fun z u hp => (by
    rcases hp with ⟨h1, h2, h3, h4⟩ | ⟨h1, h2, h3⟩
    · exact Or.inl ⟨h1, h2, h4.trans (MT_b (hMA.1.2.2.1 (ch - 97) (by omega) (by omega))).2.1, by rw [h4]; exact (MT_b (hMA.1.2.2.1 (ch - 97) (by omega) (by omega))).1, MW_i h3 hMA hMI⟩
    · exact Or.inr ⟨h1, h3, MW_i h2 hMA hMI⟩)))

theorem pMo_printed (l : Launch) (dC : Nat → ClassId) (dI : Nat → Nat → Nat) (dA : Nat → ClassId) (mo : Nat) (ft : Int) (st : AS) (w : va_W) (hw : MW dA mo ft st w)  (sz : Nat) : Met l yMo_printed wsMo_printed rmMo_printed (PC (dC, dI) vwCl (tyA dA) XN [.ref mo] w sz) (QI (dC, dI) vwCl (tyA dA) (fun (r : Int) (w1 : va_W) => r = st.pl ∧ MW dA mo 0 st w1) (fun w1 => w1) (va_A w sz)) 0 0 (va_A w sz) := by
  obtain ⟨lf, hg, kk, tx, pn, tk, fm, tO, tl, mI, mT, mS, mC, mL, mB, mF, mU, mX, mP, mK, mD, mZ, rfl, hMA, hMI⟩ := hw
  exact Met_mono (cMo_printed l dC dI dA mo ft lf hg kk tx pn tk fm tO tl mI mT mS mC mL mB mF mU mX mP mK mD mZ sz) (fun a s o t q => QI_pk q (fun z u hp => ⟨hp.trans hMA.2.2.1.1, MW_i rfl hMA hMI⟩))

theorem pMo_charAt (l : Launch) (dC : Nat → ClassId) (dI : Nat → Nat → Nat) (dA : Nat → ClassId) (mo : Nat) (p9 : Int) (ft : Int) (st : AS) (w : va_W) (hw : MW dA mo ft st w) (hp9 : r32 p9) (sz : Nat) : Met l yMo_charAt wsMo_charAt rmMo_charAt (PC (dC, dI) vwCl (tyA dA) XN [.ref mo, .int (iI p9)] w sz) (QI (dC, dI) vwCl (tyA dA) (fun (r : Int) (w1 : va_W) => r = cptA st p9 ∧ MW dA mo 0 st w1) (fun w1 => w1) (va_A w sz)) 0 0 (va_A w sz) := by
  obtain ⟨lf, hg, kk, tx, pn, tk, fm, tO, tl, mI, mT, mS, mC, mL, mB, mF, mU, mX, mP, mK, mD, mZ, rfl, hMA, hMI⟩ := hw
  exact Met_mono (cMo_charAt l dC dI dA mo ft lf hg kk tx pn tk fm tO tl mI mT mS mC mL mB mF mU mX mP mK mD mZ p9 hp9 hMA.2.2.1.2 (fun j x y => (hMA.2.2.2 j x y).2) sz) (fun a s o t q => QI_pk q (fun z u hp => ⟨cptA_of hMA.2.2 hp, MW_i rfl hMA hMI⟩))

theorem pMo_tear (l : Launch) (dC : Nat → ClassId) (dI : Nat → Nat → Nat) (dA : Nat → ClassId) (mo : Nat) (ft : Int) (st : AS) (w : va_W) (hw : MW dA mo ft st w)  (sz : Nat) : Met l yMo_tear wsMo_tear rmMo_tear (PC (dC, dI) vwCl (tyA dA) XN [.ref mo] w sz) (QI (dC, dI) vwCl (tyA dA) (fun (r : Int) (w1 : va_W) => r = st.pl ∧ MW dA mo 0 (terA st) w1) (fun w1 => w1) (va_A w sz)) 0 0 (va_A w sz) := by
  obtain ⟨lf, hg, kk, tx, pn, tk, fm, tO, tl, mI, mT, mS, mC, mL, mB, mF, mU, mX, mP, mK, mD, mZ, rfl, hMA, hMI⟩ := hw
  exact Met_mono (cMo_tear l dC dI dA mo ft lf hg kk tx pn tk fm tO tl mI mT mS mC mL mB mF mU mX mP mK mD mZ sz) (fun a s o t q => QI_pk q (fun z u hp => ⟨hp.trans hMA.2.2.1.1, MW_i rfl (show MA mT mS mC mL mB hg kk mF mU mX tx mP 0 (terA st) from ⟨hMA.1, hMA.2.1, ⟨⟨rfl, by decide, by decide⟩, fun j x y => absurd y (Int.not_lt.mpr x)⟩⟩) (show MIx mI lf (terA st) from hMI)⟩))

theorem pMo_thrown (l : Launch) (dC : Nat → ClassId) (dI : Nat → Nat → Nat) (dA : Nat → ClassId) (mo : Nat) (ft : Int) (st : AS) (w : va_W) (hw : MW dA mo ft st w)  (sz : Nat) : Met l yMo_thrown wsMo_thrown rmMo_thrown (PC (dC, dI) vwCl (tyA dA) XN [.ref mo] w sz) (QI (dC, dI) vwCl (tyA dA) (fun (r : Int) (w1 : va_W) => r = ft ∧ MW dA mo ft st w1) (fun w1 => w1) (va_A w sz)) 0 0 (va_A w sz) := by
  obtain ⟨lf, hg, kk, tx, pn, tk, fm, tO, tl, mI, mT, mS, mC, mL, mB, mF, mU, mX, mP, mK, mD, mZ, rfl, hMA, hMI⟩ := hw
  exact Met_mono (cMo_thrown l dC dI dA mo ft lf hg kk tx pn tk fm tO tl mI mT mS mC mL mB mF mU mX mP mK mD mZ sz) (fun a s o t q => QI_pk q (fun z u hp => ⟨hp, MW_i rfl hMA hMI⟩))
