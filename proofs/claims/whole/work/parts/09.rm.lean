def mw (o : Nat → Nat) (cA : ClassId) (S : SX) : va_W := [(o 0, .inr (1, [.ref (o 1), .ref (o 2), .ref (o 3), .ref (o 4), .ref (o 5), .int (S.2 0), .int (S.2 1), .int (S.2 2), .int (S.2 3), .int (S.2 4)])), (o 1, .inl (cA, 64, .inl (S.1 0))), (o 2, .inl (cA, 128, .inl (S.1 1))), (o 3, .inl (cA, 32, .inl (S.1 2))), (o 4, .inl (cA, 5, .inl (S.1 3))), (o 5, .inl (cA, 8, .inl (S.1 4)))]
def mA (o : Nat → Nat) (sz : Nat) : Nat → Prop := fun q => (∃ k, k < 6 ∧ q = o k) ∨ sz ≤ q
theorem mw_at {o : Nat → Nat} {cA : ClassId} {S : SX} : ∀ {k : Nat} {q : Nat × va_E}, (mw o cA S)[k]? = some q → k < 6 ∧ q.1 = o k
  | 0, _, h => by have h2 := Option.some.inj h; rw [← h2]; exact ⟨by decide, rfl⟩
  | 1, _, h => by have h2 := Option.some.inj h; rw [← h2]; exact ⟨by decide, rfl⟩
  | 2, _, h => by have h2 := Option.some.inj h; rw [← h2]; exact ⟨by decide, rfl⟩
  | 3, _, h => by have h2 := Option.some.inj h; rw [← h2]; exact ⟨by decide, rfl⟩
  | 4, _, h => by have h2 := Option.some.inj h; rw [← h2]; exact ⟨by decide, rfl⟩
  | 5, _, h => by have h2 := Option.some.inj h; rw [← h2]; exact ⟨by decide, rfl⟩
  | k + 6, _, h => by simp [mw] at h
theorem mw_is {o : Nat → Nat} {cA : ClassId} {S : SX} : ∀ {k : Nat}, k < 6 → ∃ e : va_E, (mw o cA S)[k]? = some (o k, e)
  | 0, _ => ⟨_, rfl⟩
  | 1, _ => ⟨_, rfl⟩
  | 2, _ => ⟨_, rfl⟩
  | 3, _ => ⟨_, rfl⟩
  | 4, _ => ⟨_, rfl⟩
  | 5, _ => ⟨_, rfl⟩
  | k + 6, h => absurd h (by omega)
def mW (D : va_G) (o : Nat → Nat) (cA : ClassId) (A : Nat → Prop) (s : State) (H0 : Heap) (S : SX) (H : Heap) (locs : List Loc) : Prop :=
  va_P D vwCl (mw o cA S) H ∧ va_D A (mw o cA S) ∧ va_S A H0 H locs ∧ va_K D vwCl [(cA, .int)] s ∧ ∀ q, H0.size ≤ q → A q
def mPre (D : va_G) (o : Nat → Nat) (cA : ClassId) (sz : Nat) (S : SX) (U : State) : Prop := U.heap.size = sz ∧ va_P D vwCl (mw o cA S) U.heap ∧ va_K D vwCl [(cA, .int)] U ∧ va_D (fun _ => True) (mw o cA S)
def mPost (D : va_G) (o : Nat → Nat) (cA : ClassId) (sz : Nat) (S : SX) (t : State) : Prop := va_P D vwCl (mw o cA S) t.heap ∧ va_K D vwCl [(cA, .int)] t ∧ va_D (mA o sz) (mw o cA S)
def mQi (D : va_G) (o : Nat → Nat) (cA : ClassId) (sz : Nat) (S1 : SX) (r1 : Int32) : Array Value → State → Outcome → State → Prop := va_Qi (fun (r : Int32) (u : SX) => r = r1 ∧ u = S1) (mPost D o cA sz) (mA o sz)
def mQv (D : va_G) (o : Nat → Nat) (cA : ClassId) (sz : Nat) (S1 : SX) : Array Value → State → Outcome → State → Prop := va_Qv (fun (u : SX) => u = S1) (mPost D o cA sz) (mA o sz)
def mMi (l : Launch) (D : va_G) (o : Nat → Nat) (cA : ClassId) (y : MethodName) (code : ByteArray) (maxL : Nat) (ret : Option FieldType) (d : Nat) (As : List Value) (S S1 : SX) (r1 : Int32) : Prop :=
  ∀ sz : Nat, Met l y (.code y code maxL ret :: GT) (rmD d) (va_Pc As (mPre D o cA sz S)) (mQi D o cA sz S1 r1) 0 0 (mA o sz)
def mMv (l : Launch) (D : va_G) (o : Nat → Nat) (cA : ClassId) (y : MethodName) (code : ByteArray) (maxL : Nat) (d : Nat) (As : List Value) (S S1 : SX) : Prop :=
  ∀ sz : Nat, Met l y (.code y code maxL none :: GT) (rmD d) (va_Pc As (mPre D o cA sz S)) (mQv D o cA sz S1) 0 0 (mA o sz)
theorem mw_ne0 {o : Nat → Nat} {cA : ClassId} {S : SX} {f : Nat → Int32} : ∀ {i : Nat}, i ≠ 1 → (mw o cA S)[i]? = (mw o cA (zA S 0 f))[i]?
  | 0, h => rfl
  | 1, h => absurd rfl h
  | 2, h => rfl
  | 3, h => rfl
  | 4, h => rfl
  | 5, h => rfl
  | i + 6, _ => by simp [mw]
theorem mw_ne1 {o : Nat → Nat} {cA : ClassId} {S : SX} {f : Nat → Int32} : ∀ {i : Nat}, i ≠ 2 → (mw o cA S)[i]? = (mw o cA (zA S 1 f))[i]?
  | 0, h => rfl
  | 1, h => rfl
  | 2, h => absurd rfl h
  | 3, h => rfl
  | 4, h => rfl
  | 5, h => rfl
  | i + 6, _ => by simp [mw]
theorem mw_ne2 {o : Nat → Nat} {cA : ClassId} {S : SX} {f : Nat → Int32} : ∀ {i : Nat}, i ≠ 3 → (mw o cA S)[i]? = (mw o cA (zA S 2 f))[i]?
  | 0, h => rfl
  | 1, h => rfl
  | 2, h => rfl
  | 3, h => absurd rfl h
  | 4, h => rfl
  | 5, h => rfl
  | i + 6, _ => by simp [mw]
theorem mw_ne3 {o : Nat → Nat} {cA : ClassId} {S : SX} {f : Nat → Int32} : ∀ {i : Nat}, i ≠ 4 → (mw o cA S)[i]? = (mw o cA (zA S 3 f))[i]?
  | 0, h => rfl
  | 1, h => rfl
  | 2, h => rfl
  | 3, h => rfl
  | 4, h => absurd rfl h
  | 5, h => rfl
  | i + 6, _ => by simp [mw]
theorem mw_ne4 {o : Nat → Nat} {cA : ClassId} {S : SX} {f : Nat → Int32} : ∀ {i : Nat}, i ≠ 5 → (mw o cA S)[i]? = (mw o cA (zA S 4 f))[i]?
  | 0, h => rfl
  | 1, h => rfl
  | 2, h => rfl
  | 3, h => rfl
  | 4, h => rfl
  | 5, h => absurd rfl h
  | i + 6, _ => by simp [mw]
section Rows_m
variable {p : Program} {l : Launch} {e : Env} {R : Room} {s : State} {m : MethodId} {args : Array Value} {below : List Frame} {meth : Method} {c : Code} {H : Heap} {locs : List Loc} {cells slots : Nat} {Q : State → Prop}
variable {cc : ByteArray} {pc : Nat} {ls : Array Slot} {rest : List Value} {D : va_G} {A : Nat → Prop} {H0 : Heap} {o : Nat → Nat} {cA : ClassId} {S : SX}
theorem m_free (hw : mW D o cA A s H0 S H locs) : ∀ q, mA o H.size q → A q := by
  intro q h
  rcases h with ⟨k, hk, rfl⟩ | h
  · obtain ⟨e, he⟩ := mw_is (o := o) (cA := cA) (S := S) hk
    exact hw.2.1.2 k _ he
  · exact hw.2.2.2.2 q (Nat.le_trans hw.2.2.1.1 h)
theorem m_kept {H1 : Heap} {locs1 : List Loc} (hw : mW D o cA A s H0 S H locs) (hk : ∀ q : Nat, q < H.size → H1[q]? = H[q]?) (hS : va_S A H0 H1 locs1) : mW D o cA A s H0 S H1 locs1 :=
  ⟨hw.1.kept (fun k q hq => hk q.1 (hw.1 k q hq).lt), hw.2.1, hS, hw.2.2.2.1, hw.2.2.2.2⟩
theorem m_met {y : MethodName} {code : ByteArray} {maxL d sz : Nat} {ret : Option FieldType} {As : List Value} {Qc : Array Value → State → Outcome → State → Prop} (hy : plainName y.cls = true) (ho : y.cls = RX1) (hlen : (lg_sl As).length ≤ maxL)
    (body : ∀ (p : Program) (e : Env) (s : State) (m : MethodId) (below : List Frame) (meth : Method) (c : Code) (ls : Array Slot), s.heap.size = sz → p.tables.exec = Jvm.exec → c.code = code → c.maxLocals = maxL → meth.sig.returnType = ret → meth.locks = false → s.vm.findClass RX1 = some m.cls → (∀ w ∈ GT, w.before As.toArray s = true) → lv_has ls maxL (lv_args 0 As) → mW D o cA (mA o s.heap.size) s s.heap S s.heap [] →
      W p l e (rmD d) s m As.toArray below meth c s.heap [] 0 0 (MQ below Qc As.toArray s 0 0 (mA o sz)) (F0 m 0 ls [])) : Met l y (.code y code maxL ret :: GT) (rmD d) (va_Pc As (mPre D o cA sz S)) Qc 0 0 (mA o sz) := by
  refine Met.ofW (cc := code) (maxL := maxL) (ret := ret) hy rfl ?_
  intro p e s m args below meth c s₁ B hml hv
  obtain ⟨rfl, hsz, hP, hK, hD0⟩ := hv
  have hts0 := atoms_spec (ws := Cond.code y code maxL ret :: GT) B.pre
  have hown : s.vm.findClass y.cls = some m.cls := findClass_of_methodNamed B.named
  rw [ho] at hown
  rw [lg_entry_eq]
  exact body p e s m below meth c _ hsz B.exec B.bytes hml B.returns B.notSynchronized hown (fun w h => hts0 w (List.mem_cons_of_mem _ h)) (lv_entry As hlen) ⟨hP, ⟨hD0.1, fun k q hk => Or.inl ⟨k, mw_at hk⟩⟩, va_S.rf, hK, fun q h => Or.inr h⟩
theorem m_reti {r r1 : Int32} {S1 : SX} (hx : p.tables.exec = Jvm.exec) (hb : c.code = cc) (hr : meth.sig.returnType = some .int) (hlocks : meth.locks = false) (hw : mW D o cA (mA o s.heap.size) s s.heap S H locs) (h : r = r1 ∧ S = S1) (hdg : decode cc pc = .ok (.ireturn, 1)) :
    W p l e R s m args below meth c H locs cells slots (MQ below (mQi D o cA s.heap.size S1 r1) args s cells slots (mA o s.heap.size)) (F0 m pc ls [.int r]) := by
  obtain ⟨hP, hD, hS, hK, -⟩ := hw
  exact W.iret (v := r) hx hb hr (fun t ht hW => ⟨⟨r, S, rfl, h, by rw [ht]; exact hP, va_K.moved hW.alike hK, hD⟩, hS.F ht⟩) hS.2.2 hdg hlocks
theorem m_retz {r : Int32} {b : Bool} {S1 : SX} (hx : p.tables.exec = Jvm.exec) (hb : c.code = cc) (hr : meth.sig.returnType = some .boolean) (hlocks : meth.locks = false) (hw : mW D o cA (mA o s.heap.size) s s.heap S H locs) (h : r = bI b ∧ S = S1) (hdg : decode cc pc = .ok (.ireturn, 1)) :
    W p l e R s m args below meth c H locs cells slots (MQ below (mQi D o cA s.heap.size S1 (bI b)) args s cells slots (mA o s.heap.size)) (F0 m pc ls [.int r]) := by
  obtain ⟨hP, hD, hS, hK, -⟩ := hw
  obtain ⟨rfl, h⟩ := h
  exact W.zret (v := bI b) (ty := .boolean) hx hb hr (bI_nar b) (fun t ht hW => ⟨⟨bI b, S, rfl, ⟨rfl, h⟩, by rw [ht]; exact hP, va_K.moved hW.alike hK, hD⟩, hS.F ht⟩) hS.2.2 hdg hlocks
theorem m_retv {S1 : SX} (hx : p.tables.exec = Jvm.exec) (hb : c.code = cc) (hr : meth.sig.returnType = none) (hlocks : meth.locks = false) (hw : mW D o cA (mA o s.heap.size) s s.heap S H locs) (h : S = S1) (hdg : decode cc pc = .ok (.return_, 1)) :
    W p l e R s m args below meth c H locs cells slots (MQ below (mQv D o cA s.heap.size S1) args s cells slots (mA o s.heap.size)) (F0 m pc ls []) := by
  obtain ⟨hP, hD, hS, hK, -⟩ := hw
  exact W.vret hx hb hr (fun t ht hW => ⟨⟨S, rfl, h, by rw [ht]; exact hP, va_K.moved hW.alike hK, hD⟩, hS.F ht⟩) hS.2.2 hdg hlocks
theorem m_cs {y : MethodName} {bytes : ByteArray} {maxL d n index nL : Nat} {ret : Option FieldType} {own : String} {As st0 : List Value} {r1 : Int32} (F : CallFix p m c cc nL s args GT own) (hM : sM l y bytes maxL ret d As r1)
    (cw : CallB R s args own index y bytes maxL ret (.code y bytes maxL ret :: GT) (rmD d) 0 0 n ∧ (Cond.static y).before args s = true) (hw : mW D o cA A s H0 S H locs) (hn : As.length = n) (hsize : ls.size = nL) (hst : st0 = As.reverse ++ rest) (hr : (rest.map fun v => v.category).sum ≤ 8) (hdg : decode cc pc = .ok (.invokestatic index, 3)) (hf : cells ≤ R.cells ∧ slots ≤ R.slots)
    (kk : ∀ (H1 : Heap) (locs1 : List Loc), mW D o cA A s H0 S H1 locs1 → W p l e R s m args below meth c H1 locs1 cells slots Q (F0 m (pc + 3) ls (.int r1 :: rest))) : W p l e R s m args below meth c H locs cells slots Q (F0 m pc ls st0) :=
  s_call F hM cw hn hsize hst hr hdg hf hw.2.2.1 (fun H1 locs1 _ hk hS => kk H1 locs1 (m_kept hw hk hS))
theorem m_ciF {y : MethodName} {bytes : ByteArray} {maxL d n index nL : Nat} {ret : Option FieldType} {own : String} {As st0 : List Value} {r1 : Int32} {S1 : SX} (F : CallFix p m c cc nL s args GT own) (hM : mMi l D o cA y bytes maxL ret d (.ref (o 0) :: As) S S1 r1)
    (cw : CallW R s args own RX1 index y bytes maxL ret (.code y bytes maxL ret :: GT) (rmD d) 0 0 n) (hw : mW D o cA A s H0 S H locs) (hn : As.length = n) (hsize : ls.size = nL) (hst : st0 = As.reverse ++ .ref (o 0) :: rest) (hr : (rest.map fun v => v.category).sum ≤ 8) (hdg : decode cc pc = .ok (.invokevirtual index, 3)) (hf : cells ≤ R.cells ∧ slots ≤ R.slots)
    (kk : ∀ (H1 : Heap) (locs1 : List Loc), mW D o cA A s H0 S1 H1 locs1 → H.size ≤ H1.size → (∀ q : Nat, q < H.size → ¬ mA o H.size q → H1[q]? = H[q]?) → W p l e R s m args below meth c H1 locs1 cells slots Q (F0 m (pc + 3) ls (.int r1 :: rest))) : W p l e R s m args below meth c H locs cells slots Q (F0 m pc ls st0) := by
  subst hst
  obtain ⟨hP, hD, hS, hK, hA⟩ := id hw
  refine va_calli (va_runV (As := As) (rest := rest) F (hM H.size) cw ⟨fun a U g mk q => ?_, ?_, fun U hU hW => ⟨rfl, by rw [hU], by rw [hU]; exact hP, va_K.moved hW.alike hK, hD.weaken (fun _ _ _ _ => trivial)⟩⟩ rfl hn hsize rfl (lv_room hr) hdg ⟨hf.1, hf.2⟩) hS (fun q _ h => m_free hw q h) (m_free hw) (fun r u t H1 locs1 ht hvm hp hB hz1 hk1 hS1 => ?_)
  · obtain ⟨q0, q1, qP, qK, qD⟩ := q
    exact ⟨q0, q1, qP, va_K.moved (u := U) (U := U.calling g mk a) (Vm.Alike.refl U.vm) qK, qD⟩
  · exact va_recv hK hP (show vwCl[1]? = some (RX1, TX1, 10) from rfl) (show (mw o cA S)[0]? = _ from rfl)
  · obtain ⟨rfl, rfl⟩ := hp
    obtain ⟨hP1, hK1, hD1⟩ := hB
    rw [ht] at hP1
    exact kk H1 locs1 ⟨hP1, hD1.weaken (fun k q hk h => m_free hw _ h), hS1, hK, hA⟩ hz1 hk1
theorem m_ci {y : MethodName} {bytes : ByteArray} {maxL d n index nL : Nat} {ret : Option FieldType} {own : String} {As st0 : List Value} {r1 : Int32} {S1 : SX} (F : CallFix p m c cc nL s args GT own) (hM : mMi l D o cA y bytes maxL ret d (.ref (o 0) :: As) S S1 r1)
    (cw : CallW R s args own RX1 index y bytes maxL ret (.code y bytes maxL ret :: GT) (rmD d) 0 0 n) (hw : mW D o cA A s H0 S H locs) (hn : As.length = n) (hsize : ls.size = nL) (hst : st0 = As.reverse ++ .ref (o 0) :: rest) (hr : (rest.map fun v => v.category).sum ≤ 8) (hdg : decode cc pc = .ok (.invokevirtual index, 3)) (hf : cells ≤ R.cells ∧ slots ≤ R.slots)
    (kk : ∀ (H1 : Heap) (locs1 : List Loc), mW D o cA A s H0 S1 H1 locs1 → W p l e R s m args below meth c H1 locs1 cells slots Q (F0 m (pc + 3) ls (.int r1 :: rest))) : W p l e R s m args below meth c H locs cells slots Q (F0 m pc ls st0) :=
  m_ciF F hM cw hw hn hsize hst hr hdg hf (fun H1 locs1 h _ _ => kk H1 locs1 h)
theorem m_cvF {y : MethodName} {bytes : ByteArray} {maxL d n index nL : Nat} {own : String} {As st0 : List Value} {S1 : SX} (F : CallFix p m c cc nL s args GT own) (hM : mMv l D o cA y bytes maxL d (.ref (o 0) :: As) S S1)
    (cw : CallW R s args own RX1 index y bytes maxL none (.code y bytes maxL none :: GT) (rmD d) 0 0 n) (hw : mW D o cA A s H0 S H locs) (hn : As.length = n) (hsize : ls.size = nL) (hst : st0 = As.reverse ++ .ref (o 0) :: rest) (hr : (rest.map fun v => v.category).sum ≤ 8) (hdg : decode cc pc = .ok (.invokevirtual index, 3)) (hf : cells ≤ R.cells ∧ slots ≤ R.slots)
    (kk : ∀ (H1 : Heap) (locs1 : List Loc), mW D o cA A s H0 S1 H1 locs1 → H.size ≤ H1.size → (∀ q : Nat, q < H.size → ¬ mA o H.size q → H1[q]? = H[q]?) → W p l e R s m args below meth c H1 locs1 cells slots Q (F0 m (pc + 3) ls rest)) : W p l e R s m args below meth c H locs cells slots Q (F0 m pc ls st0) := by
  subst hst
  obtain ⟨hP, hD, hS, hK, hA⟩ := id hw
  refine va_callv (va_runV (As := As) (rest := rest) F (hM H.size) cw ⟨fun a U g mk q => ?_, ?_, fun U hU hW => ⟨rfl, by rw [hU], by rw [hU]; exact hP, va_K.moved hW.alike hK, hD.weaken (fun _ _ _ _ => trivial)⟩⟩ rfl hn hsize rfl (lv_room hr) hdg ⟨hf.1, hf.2⟩) hS (fun q _ h => m_free hw q h) (m_free hw) (fun u t H1 locs1 ht hvm hp hB hz1 hk1 hS1 => ?_)
  · obtain ⟨q0, q1, qP, qK, qD⟩ := q
    exact ⟨q0, q1, qP, va_K.moved (u := U) (U := U.calling g mk a) (Vm.Alike.refl U.vm) qK, qD⟩
  · exact va_recv hK hP (show vwCl[1]? = some (RX1, TX1, 10) from rfl) (show (mw o cA S)[0]? = _ from rfl)
  · obtain rfl := hp
    obtain ⟨hP1, hK1, hD1⟩ := hB
    rw [ht] at hP1
    exact kk H1 locs1 ⟨hP1, hD1.weaken (fun k q hk h => m_free hw _ h), hS1, hK, hA⟩ hz1 hk1
theorem m_cv {y : MethodName} {bytes : ByteArray} {maxL d n index nL : Nat} {own : String} {As st0 : List Value} {S1 : SX} (F : CallFix p m c cc nL s args GT own) (hM : mMv l D o cA y bytes maxL d (.ref (o 0) :: As) S S1)
    (cw : CallW R s args own RX1 index y bytes maxL none (.code y bytes maxL none :: GT) (rmD d) 0 0 n) (hw : mW D o cA A s H0 S H locs) (hn : As.length = n) (hsize : ls.size = nL) (hst : st0 = As.reverse ++ .ref (o 0) :: rest) (hr : (rest.map fun v => v.category).sum ≤ 8) (hdg : decode cc pc = .ok (.invokevirtual index, 3)) (hf : cells ≤ R.cells ∧ slots ≤ R.slots)
    (kk : ∀ (H1 : Heap) (locs1 : List Loc), mW D o cA A s H0 S1 H1 locs1 → W p l e R s m args below meth c H1 locs1 cells slots Q (F0 m (pc + 3) ls rest)) : W p l e R s m args below meth c H locs cells slots Q (F0 m pc ls st0) :=
  m_cvF F hM cw hw hn hsize hst hr hdg hf (fun H1 locs1 h _ _ => kk H1 locs1 h)
theorem m_g0 (hx : p.tables.exec = Jvm.exec) (hb : c.code = cc) (hts : ∀ w ∈ GT, w.before args s = true) (hown : s.vm.findClass RX1 = some m.cls) (hw : mW D o cA A s H0 S H locs) (hdg : decode cc pc = .ok (.getfield 7, 3)) (kk : W p l e R s m args below meth c H locs cells slots Q (F0 m (pc + 3) ls (.ref (o 1) :: rest))) : W p l e R s m args below meth c H locs cells slots Q (F0 m pc ls (.ref (o 0) :: rest)) :=
  va_get (D := D) (ci := 1) (v := .ref (o 1)) (C := RX1) (T := TX1) (N := 10) hx hb hts inX1 hown hw.2.2.2.1 hw.1 0 rfl rfl 0 (by decide) (hts (.fieldLink RX1 7 "SnoopBusModel" "states" "[I") gw_181) (fun _ h9 => h9) rfl hdg kk
theorem m_l0 (hx : p.tables.exec = Jvm.exec) (hb : c.code = cc) (hw : mW D o cA A s H0 S H locs) {n : Nat} (hn : n < 64) (hdg : decode cc pc = .ok (.iaload, 1)) (kk : W p l e R s m args below meth c H locs cells slots Q (F0 m (pc + 1) ls (.int (S.1 0 n) :: rest))) : W p l e R s m args below meth c H locs cells slots Q (F0 m pc ls (.int (nI n) :: .ref (o 1) :: rest)) := by
  refine va_iald hx hb hw.2.2.2.1 hw.1 1 0 rfl rfl (vp_in_nI hn (by decide)) hdg ?_
  rw [nI_clamp (Nat.lt_trans hn (by decide))]
  exact kk
theorem m_s0 (hx : p.tables.exec = Jvm.exec) (hb : c.code = cc) (hw : mW D o cA A s H0 S H locs) {n : Nat} {x : Int32} (hn : n < 64) (hdg : decode cc pc = .ok (.iastore, 1)) (kk : ∀ (H1 : Heap) (locs1 : List Loc), mW D o cA A s H0 (zA S 0 (upd (S.1 0) n x)) H1 locs1 → W p l e R s m args below meth c H1 locs1 cells slots Q (F0 m (pc + 1) ls rest)) : W p l e R s m args below meth c H locs cells slots Q (F0 m pc ls (.int x :: .int (nI n) :: .ref (o 1) :: rest)) := by
  obtain ⟨hP, hD, hS, hK, hA⟩ := hw
  refine va_iast hx hb hK hP hD hS 1 0 rfl rfl (vp_in_nI hn (by decide)) hdg (fun H1 locs1 hP hD hS => ?_)
  rw [nI_clamp (Nat.lt_trans hn (by decide))] at hP hD
  exact kk H1 locs1 ⟨hP, hD, hS, hK, hA⟩
theorem m_r0 {f : Nat → Int32} {H1 : Heap} {locs1 : List Loc} (hw : mW D o cA A s H0 S H locs) (hc : H1[o 1]? = some (vp_cell cA (64, .inl f))) (hk : ∀ q : Nat, q < H.size → q ≠ o 1 → H1[q]? = H[q]?) (hS : va_S A H0 H1 locs1) : mW D o cA A s H0 (zA S 0 f) H1 locs1 := by
  obtain ⟨hP, hD, -, hK, hA⟩ := hw
  refine ⟨fun i q hq => ?_, ⟨fun i j p q hp hq e => ?_, fun i q hq => ?_⟩, hS, hK, hA⟩
  · by_cases hi : i = 1
    · subst hi
      have h2 := Option.some.inj hq
      rw [← h2]
      exact hc
    · have hq2 : (mw o cA S)[i]? = some q := by
        rw [← hq]
        exact mw_ne0 hi
      refine (hP i q hq2).kept (hk q.1 (hP i q hq2).lt (fun e => hi ?_))
      exact hD.1 i 1 q _ hq2 (show (mw o cA S)[1]? = some (o 1, _) from rfl) e
  · obtain ⟨e1, p1⟩ := mw_is (o := o) (cA := cA) (S := S) (mw_at hp).1
    obtain ⟨e2, p2⟩ := mw_is (o := o) (cA := cA) (S := S) (mw_at hq).1
    exact hD.1 i j _ _ p1 p2 (by rw [← (mw_at hp).2, ← (mw_at hq).2]; exact e)
  · obtain ⟨e1, p1⟩ := mw_is (o := o) (cA := cA) (S := S) (mw_at hq).1
    rw [(mw_at hq).2]
    exact hD.2 i _ p1
theorem m_e0 {f : Nat → Int32} (hw : mW D o cA A s H0 S H locs) (h : ∀ j, j < 64 → S.1 0 j = f j) : mW D o cA A s H0 (zA S 0 f) H locs := by
  refine m_r0 hw ?_ (fun q _ _ => rfl) hw.2.2.1
  rw [← arr_congr h]
  exact hw.1 1 _ rfl
theorem m_g1 (hx : p.tables.exec = Jvm.exec) (hb : c.code = cc) (hts : ∀ w ∈ GT, w.before args s = true) (hown : s.vm.findClass RX1 = some m.cls) (hw : mW D o cA A s H0 S H locs) (hdg : decode cc pc = .ok (.getfield 13, 3)) (kk : W p l e R s m args below meth c H locs cells slots Q (F0 m (pc + 3) ls (.ref (o 2) :: rest))) : W p l e R s m args below meth c H locs cells slots Q (F0 m pc ls (.ref (o 0) :: rest)) :=
  va_get (D := D) (ci := 1) (v := .ref (o 2)) (C := RX1) (T := TX1) (N := 10) hx hb hts inX1 hown hw.2.2.2.1 hw.1 0 rfl rfl 1 (by decide) (hts (.fieldLink RX1 13 "SnoopBusModel" "words" "[I") gw_182) (fun _ h9 => h9) rfl hdg kk
theorem m_l1 (hx : p.tables.exec = Jvm.exec) (hb : c.code = cc) (hw : mW D o cA A s H0 S H locs) {n : Nat} (hn : n < 128) (hdg : decode cc pc = .ok (.iaload, 1)) (kk : W p l e R s m args below meth c H locs cells slots Q (F0 m (pc + 1) ls (.int (S.1 1 n) :: rest))) : W p l e R s m args below meth c H locs cells slots Q (F0 m pc ls (.int (nI n) :: .ref (o 2) :: rest)) := by
  refine va_iald hx hb hw.2.2.2.1 hw.1 2 0 rfl rfl (vp_in_nI hn (by decide)) hdg ?_
  rw [nI_clamp (Nat.lt_trans hn (by decide))]
  exact kk
theorem m_s1 (hx : p.tables.exec = Jvm.exec) (hb : c.code = cc) (hw : mW D o cA A s H0 S H locs) {n : Nat} {x : Int32} (hn : n < 128) (hdg : decode cc pc = .ok (.iastore, 1)) (kk : ∀ (H1 : Heap) (locs1 : List Loc), mW D o cA A s H0 (zA S 1 (upd (S.1 1) n x)) H1 locs1 → W p l e R s m args below meth c H1 locs1 cells slots Q (F0 m (pc + 1) ls rest)) : W p l e R s m args below meth c H locs cells slots Q (F0 m pc ls (.int x :: .int (nI n) :: .ref (o 2) :: rest)) := by
  obtain ⟨hP, hD, hS, hK, hA⟩ := hw
  refine va_iast hx hb hK hP hD hS 2 0 rfl rfl (vp_in_nI hn (by decide)) hdg (fun H1 locs1 hP hD hS => ?_)
  rw [nI_clamp (Nat.lt_trans hn (by decide))] at hP hD
  exact kk H1 locs1 ⟨hP, hD, hS, hK, hA⟩
theorem m_r1 {f : Nat → Int32} {H1 : Heap} {locs1 : List Loc} (hw : mW D o cA A s H0 S H locs) (hc : H1[o 2]? = some (vp_cell cA (128, .inl f))) (hk : ∀ q : Nat, q < H.size → q ≠ o 2 → H1[q]? = H[q]?) (hS : va_S A H0 H1 locs1) : mW D o cA A s H0 (zA S 1 f) H1 locs1 := by
  obtain ⟨hP, hD, -, hK, hA⟩ := hw
  refine ⟨fun i q hq => ?_, ⟨fun i j p q hp hq e => ?_, fun i q hq => ?_⟩, hS, hK, hA⟩
  · by_cases hi : i = 2
    · subst hi
      have h2 := Option.some.inj hq
      rw [← h2]
      exact hc
    · have hq2 : (mw o cA S)[i]? = some q := by
        rw [← hq]
        exact mw_ne1 hi
      refine (hP i q hq2).kept (hk q.1 (hP i q hq2).lt (fun e => hi ?_))
      exact hD.1 i 2 q _ hq2 (show (mw o cA S)[2]? = some (o 2, _) from rfl) e
  · obtain ⟨e1, p1⟩ := mw_is (o := o) (cA := cA) (S := S) (mw_at hp).1
    obtain ⟨e2, p2⟩ := mw_is (o := o) (cA := cA) (S := S) (mw_at hq).1
    exact hD.1 i j _ _ p1 p2 (by rw [← (mw_at hp).2, ← (mw_at hq).2]; exact e)
  · obtain ⟨e1, p1⟩ := mw_is (o := o) (cA := cA) (S := S) (mw_at hq).1
    rw [(mw_at hq).2]
    exact hD.2 i _ p1
theorem m_e1 {f : Nat → Int32} (hw : mW D o cA A s H0 S H locs) (h : ∀ j, j < 128 → S.1 1 j = f j) : mW D o cA A s H0 (zA S 1 f) H locs := by
  refine m_r1 hw ?_ (fun q _ _ => rfl) hw.2.2.1
  rw [← arr_congr h]
  exact hw.1 2 _ rfl
theorem m_g2 (hx : p.tables.exec = Jvm.exec) (hb : c.code = cc) (hts : ∀ w ∈ GT, w.before args s = true) (hown : s.vm.findClass RX1 = some m.cls) (hw : mW D o cA A s H0 S H locs) (hdg : decode cc pc = .ok (.getfield 16, 3)) (kk : W p l e R s m args below meth c H locs cells slots Q (F0 m (pc + 3) ls (.ref (o 3) :: rest))) : W p l e R s m args below meth c H locs cells slots Q (F0 m pc ls (.ref (o 0) :: rest)) :=
  va_get (D := D) (ci := 1) (v := .ref (o 3)) (C := RX1) (T := TX1) (N := 10) hx hb hts inX1 hown hw.2.2.2.1 hw.1 0 rfl rfl 2 (by decide) (hts (.fieldLink RX1 16 "SnoopBusModel" "memory" "[I") gw_183) (fun _ h9 => h9) rfl hdg kk
theorem m_l2 (hx : p.tables.exec = Jvm.exec) (hb : c.code = cc) (hw : mW D o cA A s H0 S H locs) {n : Nat} (hn : n < 32) (hdg : decode cc pc = .ok (.iaload, 1)) (kk : W p l e R s m args below meth c H locs cells slots Q (F0 m (pc + 1) ls (.int (S.1 2 n) :: rest))) : W p l e R s m args below meth c H locs cells slots Q (F0 m pc ls (.int (nI n) :: .ref (o 3) :: rest)) := by
  refine va_iald hx hb hw.2.2.2.1 hw.1 3 0 rfl rfl (vp_in_nI hn (by decide)) hdg ?_
  rw [nI_clamp (Nat.lt_trans hn (by decide))]
  exact kk
theorem m_s2 (hx : p.tables.exec = Jvm.exec) (hb : c.code = cc) (hw : mW D o cA A s H0 S H locs) {n : Nat} {x : Int32} (hn : n < 32) (hdg : decode cc pc = .ok (.iastore, 1)) (kk : ∀ (H1 : Heap) (locs1 : List Loc), mW D o cA A s H0 (zA S 2 (upd (S.1 2) n x)) H1 locs1 → W p l e R s m args below meth c H1 locs1 cells slots Q (F0 m (pc + 1) ls rest)) : W p l e R s m args below meth c H locs cells slots Q (F0 m pc ls (.int x :: .int (nI n) :: .ref (o 3) :: rest)) := by
  obtain ⟨hP, hD, hS, hK, hA⟩ := hw
  refine va_iast hx hb hK hP hD hS 3 0 rfl rfl (vp_in_nI hn (by decide)) hdg (fun H1 locs1 hP hD hS => ?_)
  rw [nI_clamp (Nat.lt_trans hn (by decide))] at hP hD
  exact kk H1 locs1 ⟨hP, hD, hS, hK, hA⟩
theorem m_r2 {f : Nat → Int32} {H1 : Heap} {locs1 : List Loc} (hw : mW D o cA A s H0 S H locs) (hc : H1[o 3]? = some (vp_cell cA (32, .inl f))) (hk : ∀ q : Nat, q < H.size → q ≠ o 3 → H1[q]? = H[q]?) (hS : va_S A H0 H1 locs1) : mW D o cA A s H0 (zA S 2 f) H1 locs1 := by
  obtain ⟨hP, hD, -, hK, hA⟩ := hw
  refine ⟨fun i q hq => ?_, ⟨fun i j p q hp hq e => ?_, fun i q hq => ?_⟩, hS, hK, hA⟩
  · by_cases hi : i = 3
    · subst hi
      have h2 := Option.some.inj hq
      rw [← h2]
      exact hc
    · have hq2 : (mw o cA S)[i]? = some q := by
        rw [← hq]
        exact mw_ne2 hi
      refine (hP i q hq2).kept (hk q.1 (hP i q hq2).lt (fun e => hi ?_))
      exact hD.1 i 3 q _ hq2 (show (mw o cA S)[3]? = some (o 3, _) from rfl) e
  · obtain ⟨e1, p1⟩ := mw_is (o := o) (cA := cA) (S := S) (mw_at hp).1
    obtain ⟨e2, p2⟩ := mw_is (o := o) (cA := cA) (S := S) (mw_at hq).1
    exact hD.1 i j _ _ p1 p2 (by rw [← (mw_at hp).2, ← (mw_at hq).2]; exact e)
  · obtain ⟨e1, p1⟩ := mw_is (o := o) (cA := cA) (S := S) (mw_at hq).1
    rw [(mw_at hq).2]
    exact hD.2 i _ p1
theorem m_e2 {f : Nat → Int32} (hw : mW D o cA A s H0 S H locs) (h : ∀ j, j < 32 → S.1 2 j = f j) : mW D o cA A s H0 (zA S 2 f) H locs := by
  refine m_r2 hw ?_ (fun q _ _ => rfl) hw.2.2.1
  rw [← arr_congr h]
  exact hw.1 3 _ rfl
theorem m_g3 (hx : p.tables.exec = Jvm.exec) (hb : c.code = cc) (hts : ∀ w ∈ GT, w.before args s = true) (hown : s.vm.findClass RX1 = some m.cls) (hw : mW D o cA A s H0 S H locs) (hdg : decode cc pc = .ok (.getfield 19, 3)) (kk : W p l e R s m args below meth c H locs cells slots Q (F0 m (pc + 3) ls (.ref (o 4) :: rest))) : W p l e R s m args below meth c H locs cells slots Q (F0 m pc ls (.ref (o 0) :: rest)) :=
  va_get (D := D) (ci := 1) (v := .ref (o 4)) (C := RX1) (T := TX1) (N := 10) hx hb hts inX1 hown hw.2.2.2.1 hw.1 0 rfl rfl 3 (by decide) (hts (.fieldLink RX1 19 "SnoopBusModel" "counts" "[I") gw_184) (fun _ h9 => h9) rfl hdg kk
theorem m_l3 (hx : p.tables.exec = Jvm.exec) (hb : c.code = cc) (hw : mW D o cA A s H0 S H locs) {n : Nat} (hn : n < 5) (hdg : decode cc pc = .ok (.iaload, 1)) (kk : W p l e R s m args below meth c H locs cells slots Q (F0 m (pc + 1) ls (.int (S.1 3 n) :: rest))) : W p l e R s m args below meth c H locs cells slots Q (F0 m pc ls (.int (nI n) :: .ref (o 4) :: rest)) := by
  refine va_iald hx hb hw.2.2.2.1 hw.1 4 0 rfl rfl (vp_in_nI hn (by decide)) hdg ?_
  rw [nI_clamp (Nat.lt_trans hn (by decide))]
  exact kk
theorem m_s3 (hx : p.tables.exec = Jvm.exec) (hb : c.code = cc) (hw : mW D o cA A s H0 S H locs) {n : Nat} {x : Int32} (hn : n < 5) (hdg : decode cc pc = .ok (.iastore, 1)) (kk : ∀ (H1 : Heap) (locs1 : List Loc), mW D o cA A s H0 (zA S 3 (upd (S.1 3) n x)) H1 locs1 → W p l e R s m args below meth c H1 locs1 cells slots Q (F0 m (pc + 1) ls rest)) : W p l e R s m args below meth c H locs cells slots Q (F0 m pc ls (.int x :: .int (nI n) :: .ref (o 4) :: rest)) := by
  obtain ⟨hP, hD, hS, hK, hA⟩ := hw
  refine va_iast hx hb hK hP hD hS 4 0 rfl rfl (vp_in_nI hn (by decide)) hdg (fun H1 locs1 hP hD hS => ?_)
  rw [nI_clamp (Nat.lt_trans hn (by decide))] at hP hD
  exact kk H1 locs1 ⟨hP, hD, hS, hK, hA⟩
theorem m_r3 {f : Nat → Int32} {H1 : Heap} {locs1 : List Loc} (hw : mW D o cA A s H0 S H locs) (hc : H1[o 4]? = some (vp_cell cA (5, .inl f))) (hk : ∀ q : Nat, q < H.size → q ≠ o 4 → H1[q]? = H[q]?) (hS : va_S A H0 H1 locs1) : mW D o cA A s H0 (zA S 3 f) H1 locs1 := by
  obtain ⟨hP, hD, -, hK, hA⟩ := hw
  refine ⟨fun i q hq => ?_, ⟨fun i j p q hp hq e => ?_, fun i q hq => ?_⟩, hS, hK, hA⟩
  · by_cases hi : i = 4
    · subst hi
      have h2 := Option.some.inj hq
      rw [← h2]
      exact hc
    · have hq2 : (mw o cA S)[i]? = some q := by
        rw [← hq]
        exact mw_ne3 hi
      refine (hP i q hq2).kept (hk q.1 (hP i q hq2).lt (fun e => hi ?_))
      exact hD.1 i 4 q _ hq2 (show (mw o cA S)[4]? = some (o 4, _) from rfl) e
  · obtain ⟨e1, p1⟩ := mw_is (o := o) (cA := cA) (S := S) (mw_at hp).1
    obtain ⟨e2, p2⟩ := mw_is (o := o) (cA := cA) (S := S) (mw_at hq).1
    exact hD.1 i j _ _ p1 p2 (by rw [← (mw_at hp).2, ← (mw_at hq).2]; exact e)
  · obtain ⟨e1, p1⟩ := mw_is (o := o) (cA := cA) (S := S) (mw_at hq).1
    rw [(mw_at hq).2]
    exact hD.2 i _ p1
theorem m_e3 {f : Nat → Int32} (hw : mW D o cA A s H0 S H locs) (h : ∀ j, j < 5 → S.1 3 j = f j) : mW D o cA A s H0 (zA S 3 f) H locs := by
  refine m_r3 hw ?_ (fun q _ _ => rfl) hw.2.2.1
  rw [← arr_congr h]
  exact hw.1 4 _ rfl
theorem m_g4 (hx : p.tables.exec = Jvm.exec) (hb : c.code = cc) (hts : ∀ w ∈ GT, w.before args s = true) (hown : s.vm.findClass RX1 = some m.cls) (hw : mW D o cA A s H0 S H locs) (hdg : decode cc pc = .ok (.getfield 22, 3)) (kk : W p l e R s m args below meth c H locs cells slots Q (F0 m (pc + 3) ls (.ref (o 5) :: rest))) : W p l e R s m args below meth c H locs cells slots Q (F0 m pc ls (.ref (o 0) :: rest)) :=
  va_get (D := D) (ci := 1) (v := .ref (o 5)) (C := RX1) (T := TX1) (N := 10) hx hb hts inX1 hown hw.2.2.2.1 hw.1 0 rfl rfl 4 (by decide) (hts (.fieldLink RX1 22 "SnoopBusModel" "last" "[I") gw_185) (fun _ h9 => h9) rfl hdg kk
theorem m_l4 (hx : p.tables.exec = Jvm.exec) (hb : c.code = cc) (hw : mW D o cA A s H0 S H locs) {n : Nat} (hn : n < 8) (hdg : decode cc pc = .ok (.iaload, 1)) (kk : W p l e R s m args below meth c H locs cells slots Q (F0 m (pc + 1) ls (.int (S.1 4 n) :: rest))) : W p l e R s m args below meth c H locs cells slots Q (F0 m pc ls (.int (nI n) :: .ref (o 5) :: rest)) := by
  refine va_iald hx hb hw.2.2.2.1 hw.1 5 0 rfl rfl (vp_in_nI hn (by decide)) hdg ?_
  rw [nI_clamp (Nat.lt_trans hn (by decide))]
  exact kk
theorem m_s4 (hx : p.tables.exec = Jvm.exec) (hb : c.code = cc) (hw : mW D o cA A s H0 S H locs) {n : Nat} {x : Int32} (hn : n < 8) (hdg : decode cc pc = .ok (.iastore, 1)) (kk : ∀ (H1 : Heap) (locs1 : List Loc), mW D o cA A s H0 (zA S 4 (upd (S.1 4) n x)) H1 locs1 → W p l e R s m args below meth c H1 locs1 cells slots Q (F0 m (pc + 1) ls rest)) : W p l e R s m args below meth c H locs cells slots Q (F0 m pc ls (.int x :: .int (nI n) :: .ref (o 5) :: rest)) := by
  obtain ⟨hP, hD, hS, hK, hA⟩ := hw
  refine va_iast hx hb hK hP hD hS 5 0 rfl rfl (vp_in_nI hn (by decide)) hdg (fun H1 locs1 hP hD hS => ?_)
  rw [nI_clamp (Nat.lt_trans hn (by decide))] at hP hD
  exact kk H1 locs1 ⟨hP, hD, hS, hK, hA⟩
theorem m_r4 {f : Nat → Int32} {H1 : Heap} {locs1 : List Loc} (hw : mW D o cA A s H0 S H locs) (hc : H1[o 5]? = some (vp_cell cA (8, .inl f))) (hk : ∀ q : Nat, q < H.size → q ≠ o 5 → H1[q]? = H[q]?) (hS : va_S A H0 H1 locs1) : mW D o cA A s H0 (zA S 4 f) H1 locs1 := by
  obtain ⟨hP, hD, -, hK, hA⟩ := hw
  refine ⟨fun i q hq => ?_, ⟨fun i j p q hp hq e => ?_, fun i q hq => ?_⟩, hS, hK, hA⟩
  · by_cases hi : i = 5
    · subst hi
      have h2 := Option.some.inj hq
      rw [← h2]
      exact hc
    · have hq2 : (mw o cA S)[i]? = some q := by
        rw [← hq]
        exact mw_ne4 hi
      refine (hP i q hq2).kept (hk q.1 (hP i q hq2).lt (fun e => hi ?_))
      exact hD.1 i 5 q _ hq2 (show (mw o cA S)[5]? = some (o 5, _) from rfl) e
  · obtain ⟨e1, p1⟩ := mw_is (o := o) (cA := cA) (S := S) (mw_at hp).1
    obtain ⟨e2, p2⟩ := mw_is (o := o) (cA := cA) (S := S) (mw_at hq).1
    exact hD.1 i j _ _ p1 p2 (by rw [← (mw_at hp).2, ← (mw_at hq).2]; exact e)
  · obtain ⟨e1, p1⟩ := mw_is (o := o) (cA := cA) (S := S) (mw_at hq).1
    rw [(mw_at hq).2]
    exact hD.2 i _ p1
theorem m_e4 {f : Nat → Int32} (hw : mW D o cA A s H0 S H locs) (h : ∀ j, j < 8 → S.1 4 j = f j) : mW D o cA A s H0 (zA S 4 f) H locs := by
  refine m_r4 hw ?_ (fun q _ _ => rfl) hw.2.2.1
  rw [← arr_congr h]
  exact hw.1 5 _ rfl
theorem m_f0 (hx : p.tables.exec = Jvm.exec) (hb : c.code = cc) (hts : ∀ w ∈ GT, w.before args s = true) (hown : s.vm.findClass RX1 = some m.cls) (hw : mW D o cA A s H0 S H locs) (hdg : decode cc pc = .ok (.getfield 25, 3)) (kk : W p l e R s m args below meth c H locs cells slots Q (F0 m (pc + 3) ls (.int (S.2 0) :: rest))) : W p l e R s m args below meth c H locs cells slots Q (F0 m pc ls (.ref (o 0) :: rest)) :=
  va_get (D := D) (ci := 1) (v := .int (S.2 0)) (C := RX1) (T := TX1) (N := 10) hx hb hts inX1 hown hw.2.2.2.1 hw.1 0 rfl rfl 5 (by decide) (hts (.fieldLink RX1 25 "SnoopBusModel" "protocol" "I") gw_186) (fun _ h9 => h9) rfl hdg kk
theorem m_p0 (hx : p.tables.exec = Jvm.exec) (hb : c.code = cc) (hts : ∀ w ∈ GT, w.before args s = true) (hown : s.vm.findClass RX1 = some m.cls) (hw : mW D o cA A s H0 S H locs) {x : Int32} (hdg : decode cc pc = .ok (.putfield 25, 3)) (kk : ∀ (H1 : Heap) (locs1 : List Loc), mW D o cA A s H0 (zF S 0 x) H1 locs1 → W p l e R s m args below meth c H1 locs1 cells slots Q (F0 m (pc + 3) ls rest)) : W p l e R s m args below meth c H locs cells slots Q (F0 m pc ls (.int x :: .ref (o 0) :: rest)) := by
  obtain ⟨hP, hD, hS, hK, hA⟩ := hw
  exact va_put (D := D) (ci := 1) (v := .int x) (ty := .int) (C := RX1) (T := TX1) (N := 10) hx hb hts inX1 tyX1 tyX1_ok nmX1 hown hK hP hD hS 0 rfl rfl 5 (by decide) (hts (.fieldLink RX1 25 "SnoopBusModel" "protocol" "I") gw_186) (fun _ h9 => h9) rfl (by decide +kernel) rfl rfl (Nat.le_of_ble_eq_true rfl) hdg (fun H1 locs1 hP hD hS => kk H1 locs1 ⟨hP, hD, hS, hK, hA⟩)
theorem m_f1 (hx : p.tables.exec = Jvm.exec) (hb : c.code = cc) (hts : ∀ w ∈ GT, w.before args s = true) (hown : s.vm.findClass RX1 = some m.cls) (hw : mW D o cA A s H0 S H locs) (hdg : decode cc pc = .ok (.getfield 32, 3)) (kk : W p l e R s m args below meth c H locs cells slots Q (F0 m (pc + 3) ls (.int (S.2 1) :: rest))) : W p l e R s m args below meth c H locs cells slots Q (F0 m pc ls (.ref (o 0) :: rest)) :=
  va_get (D := D) (ci := 1) (v := .int (S.2 1)) (C := RX1) (T := TX1) (N := 10) hx hb hts inX1 hown hw.2.2.2.1 hw.1 0 rfl rfl 6 (by decide) (hts (.fieldLink RX1 32 "SnoopBusModel" "all" "I") gw_187) (fun _ h9 => h9) rfl hdg kk
theorem m_p1 (hx : p.tables.exec = Jvm.exec) (hb : c.code = cc) (hts : ∀ w ∈ GT, w.before args s = true) (hown : s.vm.findClass RX1 = some m.cls) (hw : mW D o cA A s H0 S H locs) {x : Int32} (hdg : decode cc pc = .ok (.putfield 32, 3)) (kk : ∀ (H1 : Heap) (locs1 : List Loc), mW D o cA A s H0 (zF S 1 x) H1 locs1 → W p l e R s m args below meth c H1 locs1 cells slots Q (F0 m (pc + 3) ls rest)) : W p l e R s m args below meth c H locs cells slots Q (F0 m pc ls (.int x :: .ref (o 0) :: rest)) := by
  obtain ⟨hP, hD, hS, hK, hA⟩ := hw
  exact va_put (D := D) (ci := 1) (v := .int x) (ty := .int) (C := RX1) (T := TX1) (N := 10) hx hb hts inX1 tyX1 tyX1_ok nmX1 hown hK hP hD hS 0 rfl rfl 6 (by decide) (hts (.fieldLink RX1 32 "SnoopBusModel" "all" "I") gw_187) (fun _ h9 => h9) rfl (by decide +kernel) rfl rfl (Nat.le_of_ble_eq_true rfl) hdg (fun H1 locs1 hP hD hS => kk H1 locs1 ⟨hP, hD, hS, hK, hA⟩)
theorem m_f2 (hx : p.tables.exec = Jvm.exec) (hb : c.code = cc) (hts : ∀ w ∈ GT, w.before args s = true) (hown : s.vm.findClass RX1 = some m.cls) (hw : mW D o cA A s H0 S H locs) (hdg : decode cc pc = .ok (.getfield 35, 3)) (kk : W p l e R s m args below meth c H locs cells slots Q (F0 m (pc + 3) ls (.int (S.2 2) :: rest))) : W p l e R s m args below meth c H locs cells slots Q (F0 m pc ls (.ref (o 0) :: rest)) :=
  va_get (D := D) (ci := 1) (v := .int (S.2 2)) (C := RX1) (T := TX1) (N := 10) hx hb hts inX1 hown hw.2.2.2.1 hw.1 0 rfl rfl 7 (by decide) (hts (.fieldLink RX1 35 "SnoopBusModel" "hits" "I") gw_188) (fun _ h9 => h9) rfl hdg kk
theorem m_p2 (hx : p.tables.exec = Jvm.exec) (hb : c.code = cc) (hts : ∀ w ∈ GT, w.before args s = true) (hown : s.vm.findClass RX1 = some m.cls) (hw : mW D o cA A s H0 S H locs) {x : Int32} (hdg : decode cc pc = .ok (.putfield 35, 3)) (kk : ∀ (H1 : Heap) (locs1 : List Loc), mW D o cA A s H0 (zF S 2 x) H1 locs1 → W p l e R s m args below meth c H1 locs1 cells slots Q (F0 m (pc + 3) ls rest)) : W p l e R s m args below meth c H locs cells slots Q (F0 m pc ls (.int x :: .ref (o 0) :: rest)) := by
  obtain ⟨hP, hD, hS, hK, hA⟩ := hw
  exact va_put (D := D) (ci := 1) (v := .int x) (ty := .int) (C := RX1) (T := TX1) (N := 10) hx hb hts inX1 tyX1 tyX1_ok nmX1 hown hK hP hD hS 0 rfl rfl 7 (by decide) (hts (.fieldLink RX1 35 "SnoopBusModel" "hits" "I") gw_188) (fun _ h9 => h9) rfl (by decide +kernel) rfl rfl (Nat.le_of_ble_eq_true rfl) hdg (fun H1 locs1 hP hD hS => kk H1 locs1 ⟨hP, hD, hS, hK, hA⟩)
theorem m_f3 (hx : p.tables.exec = Jvm.exec) (hb : c.code = cc) (hts : ∀ w ∈ GT, w.before args s = true) (hown : s.vm.findClass RX1 = some m.cls) (hw : mW D o cA A s H0 S H locs) (hdg : decode cc pc = .ok (.getfield 38, 3)) (kk : W p l e R s m args below meth c H locs cells slots Q (F0 m (pc + 3) ls (.int (S.2 3) :: rest))) : W p l e R s m args below meth c H locs cells slots Q (F0 m pc ls (.ref (o 0) :: rest)) :=
  va_get (D := D) (ci := 1) (v := .int (S.2 3)) (C := RX1) (T := TX1) (N := 10) hx hb hts inX1 hown hw.2.2.2.1 hw.1 0 rfl rfl 8 (by decide) (hts (.fieldLink RX1 38 "SnoopBusModel" "misses" "I") gw_189) (fun _ h9 => h9) rfl hdg kk
theorem m_p3 (hx : p.tables.exec = Jvm.exec) (hb : c.code = cc) (hts : ∀ w ∈ GT, w.before args s = true) (hown : s.vm.findClass RX1 = some m.cls) (hw : mW D o cA A s H0 S H locs) {x : Int32} (hdg : decode cc pc = .ok (.putfield 38, 3)) (kk : ∀ (H1 : Heap) (locs1 : List Loc), mW D o cA A s H0 (zF S 3 x) H1 locs1 → W p l e R s m args below meth c H1 locs1 cells slots Q (F0 m (pc + 3) ls rest)) : W p l e R s m args below meth c H locs cells slots Q (F0 m pc ls (.int x :: .ref (o 0) :: rest)) := by
  obtain ⟨hP, hD, hS, hK, hA⟩ := hw
  exact va_put (D := D) (ci := 1) (v := .int x) (ty := .int) (C := RX1) (T := TX1) (N := 10) hx hb hts inX1 tyX1 tyX1_ok nmX1 hown hK hP hD hS 0 rfl rfl 8 (by decide) (hts (.fieldLink RX1 38 "SnoopBusModel" "misses" "I") gw_189) (fun _ h9 => h9) rfl (by decide +kernel) rfl rfl (Nat.le_of_ble_eq_true rfl) hdg (fun H1 locs1 hP hD hS => kk H1 locs1 ⟨hP, hD, hS, hK, hA⟩)
theorem m_f4 (hx : p.tables.exec = Jvm.exec) (hb : c.code = cc) (hts : ∀ w ∈ GT, w.before args s = true) (hown : s.vm.findClass RX1 = some m.cls) (hw : mW D o cA A s H0 S H locs) (hdg : decode cc pc = .ok (.getfield 29, 3)) (kk : W p l e R s m args below meth c H locs cells slots Q (F0 m (pc + 3) ls (.int (S.2 4) :: rest))) : W p l e R s m args below meth c H locs cells slots Q (F0 m pc ls (.ref (o 0) :: rest)) :=
  va_get (D := D) (ci := 1) (v := .int (S.2 4)) (C := RX1) (T := TX1) (N := 10) hx hb hts inX1 hown hw.2.2.2.1 hw.1 0 rfl rfl 9 (by decide) (hts (.fieldLink RX1 29 "SnoopBusModel" "thrown" "I") gw_190) (fun _ h9 => h9) rfl hdg kk
theorem m_p4 (hx : p.tables.exec = Jvm.exec) (hb : c.code = cc) (hts : ∀ w ∈ GT, w.before args s = true) (hown : s.vm.findClass RX1 = some m.cls) (hw : mW D o cA A s H0 S H locs) {x : Int32} (hdg : decode cc pc = .ok (.putfield 29, 3)) (kk : ∀ (H1 : Heap) (locs1 : List Loc), mW D o cA A s H0 (zF S 4 x) H1 locs1 → W p l e R s m args below meth c H1 locs1 cells slots Q (F0 m (pc + 3) ls rest)) : W p l e R s m args below meth c H locs cells slots Q (F0 m pc ls (.int x :: .ref (o 0) :: rest)) := by
  obtain ⟨hP, hD, hS, hK, hA⟩ := hw
  exact va_put (D := D) (ci := 1) (v := .int x) (ty := .int) (C := RX1) (T := TX1) (N := 10) hx hb hts inX1 tyX1 tyX1_ok nmX1 hown hK hP hD hS 0 rfl rfl 9 (by decide) (hts (.fieldLink RX1 29 "SnoopBusModel" "thrown" "I") gw_190) (fun _ h9 => h9) rfl (by decide +kernel) rfl rfl (Nat.le_of_ble_eq_true rfl) hdg (fun H1 locs1 hP hD hS => kk H1 locs1 ⟨hP, hD, hS, hK, hA⟩)
end Rows_m
