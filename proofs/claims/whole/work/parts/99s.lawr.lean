/-! rows for the law: worlds in pieces -/
def ocl (dA : Nat → ClassId) (o : Nat) (f : Nat → Int64) : Nat × va_E := (o, .inl (dA 3, 1, .inr (.inl f)))
theorem i2c_ch (x : Int32) : ∃ ch : Int, (0 ≤ ch ∧ ch < 65536) ∧ (x.toUInt32 % 65536).toInt32 = iI ch := by
  have hlt : (x.toUInt32 % 65536).toNat < 65536 := by
    rw [UInt32.toNat_mod]
    exact Nat.mod_lt _ (by decide)
  refine ⟨((x.toUInt32 % 65536).toNat : Int), ⟨by omega, by omega⟩, ?_⟩
  apply Int32.toBitVec_inj.mp
  show (x.toUInt32 % 65536).toBitVec = BitVec.ofInt 32 ((x.toUInt32 % 65536).toNat : Int)
  rw [BitVec.ofInt_natCast]
  show _ = BitVec.ofNat 32 (x.toUInt32 % 65536).toBitVec.toNat
  rw [BitVec.ofNat_toNat, BitVec.setWidth_eq]
section SLW
variable {p : Program} {l : Launch} {e : Env} {R : Room} {s : State} {m : MethodId} {args : Array Value} {below : List Frame} {meth : Method} {c : Code} {H H0 : Heap} {locs : List Loc} {cells slots : Nat} {Q : State → Prop} {cc : ByteArray} {pc h : Nat} {ls : Array Slot} {rest st0 : List Value} {D : va_G} {cl : List vw_C} {A : Nat → Prop} {tys : List (ClassId × FieldType)} {ws wc wr : va_W} {X : XT}
theorem va_Pr (hP : va_P D cl (wr ++ wc) H) : va_P D cl wc H := fun k x hk => hP (wr.length + k) x (by rw [List.getElem?_append_right (by omega), show wr.length + k - wr.length = k by omega]; exact hk)
theorem preVE (hK : va_K D cl tys s) (hP : va_P D cl (wr ++ wc) H) (hD : va_D A (wr ++ wc)) (hS : va_S A s.heap H locs) (hA : ∀ q, s.heap.size ≤ q → A q) (hXO : XOK X) (hX : X A s s.heap) {b : Nat} {As : List Value} {ci : Nat} {fs : List Value} {q : vw_C} (hrv : wc[0]? = some (b, .inr (ci, fs))) (hc : cl[ci]? = some q) : PreV s H q.1 b (PC D cl tys X (.ref b :: As) wc H.size) As :=
  ⟨(preE (As := .ref b :: As) hK hP hD hS hA hXO hX).1, va_recv (q0 := 0) hK (va_Pr hP) hc hrv, (preE (As := .ref b :: As) hK hP hD hS hA hXO hX).2⟩
theorem cvE_i {post : Int → va_W → Prop} {a : Array Value} {mc ms : Nat} (hr : va_Run p l e R s m args below meth c H locs cells slots mc ms (F0 m pc ls st0) rest (QI D cl tys post (fun w => w) (va_A wc H.size) a) (va_A wc H.size)) (hP : va_P D cl (wr ++ wc) H) (hD : va_D A (wr ++ wc)) (hS : va_S A s.heap H locs) (hA : ∀ q, s.heap.size ≤ q → A q)
    (kk : ∀ (z : Int) (w1 : va_W) (H1 : Heap) (locs1 : List Loc), post z w1 → va_P D cl (wr ++ w1) H1 → va_D A (wr ++ w1) → va_S A s.heap H1 locs1 → W p l e R s m args below meth c H1 locs1 (cells + mc) (slots + ms) Q (F0 m (pc + 3) ls (.int (iI z) :: rest))) : W p l e R s m args below meth c H locs cells slots Q (F0 m pc ls st0) := by
  have hF := freeE hD hS hA
  refine va_calli hr hS (fun q _ h => hF q h) hF (fun r u t H1 locs1 ht hvm hp hB hz hk hS1 => ?_)
  obtain ⟨z, rfl, hp⟩ := hp
  obtain ⟨hP1, hK1, hD1⟩ := hB
  rw [ht] at hP1
  obtain ⟨hP2, hD2⟩ := joinE hP hD hk hF hP1 hD1
  exact kk z u H1 locs1 hp hP2 hD2 hS1
theorem lcm_eq (hx : p.tables.exec = Jvm.exec) (hb : c.code = cc) {x : Int64} {off : Int} {tgt : Nat} (d : decode cc pc = .ok (.lcmp, 1)) (d2 : decode cc (pc + 1) = .ok (.ifCond .eq off, 3)) (ht : ((pc + 1 : Nat) : Int) + off = (tgt : Int)) (kt : W p l e R s m args below meth c H locs cells slots Q (F0 m tgt ls rest)) : W p l e R s m args below meth c H locs cells slots Q (F0 m pc ls (.long x :: .long x :: rest)) :=
  W.lcmp hx hb d (lv_if_eq hx hb d2 ht (fun _ => kt) (fun h => absurd ((lg_cmp_eq x x).mpr rfl) h))
theorem icm_eq (hx : p.tables.exec = Jvm.exec) (hb : c.code = cc) {x : Int32} {off : Int} {tgt : Nat} (d : decode cc pc = .ok (.if_icmp .eq off, 3)) (ht : (pc : Int) + off = (tgt : Int)) (kt : W p l e R s m args below meth c H locs cells slots Q (F0 m tgt ls rest)) : W p l e R s m args below meth c H locs cells slots Q (F0 m pc ls (.int x :: .int x :: rest)) :=
  lv_icmp_eq hx hb d ht (fun _ => kt) (fun h => absurd rfl h)
theorem thr_P (hP : va_P D cl ws H) {H1 : Heap} (hk : ∀ q : Nat, q < H.size → H1[q]? = H[q]?) : va_P D cl ws H1 := hP.kept (fun k q hq => hk q.1 (hP k q hq).lt)
theorem thr_S (hS : va_S A H0 H locs) {H1 : Heap} (hz : H.size ≤ H1.size) (hk : ∀ q : Nat, q < H.size → H1[q]? = H[q]?) : va_S A H0 H1 locs := ⟨Nat.le_trans hS.1 hz, fun q h1 h2 => (hk q (Nat.lt_of_lt_of_le h1 hS.1)).trans (hS.2.1 q h1 h2), hS.2.2⟩
end SLW
theorem cl0 : (iI 0).toNatClampNeg = 0 := iI_cl (z := 0) (by decide) (by decide)
theorem upL0 {f : Nat → Int64} {x : Int64} : vp_updL f (iI 0).toNatClampNeg x 0 = x := if_pos cl0.symm
