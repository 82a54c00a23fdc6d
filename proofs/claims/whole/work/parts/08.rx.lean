def xw (o : Nat → Nat) (cA : ClassId) (S : SX) : va_W := [(o 0, .inr (0, [.ref (o 1), .ref (o 2), .ref (o 3), .ref (o 4), .ref (o 5), .ref (o 6), .int (S.2 0), .int (S.2 1), .int (S.2 2), .int (S.2 3)])), (o 1, .inl (cA, 8, .inl (S.1 0))), (o 2, .inl (cA, 8, .inl (S.1 1))), (o 3, .inl (cA, 16, .inl (S.1 2))), (o 4, .inl (cA, 32, .inl (S.1 3))), (o 5, .inl (cA, 5, .inl (S.1 4))), (o 6, .inl (cA, 8, .inl (S.1 5)))]
def xA (o : Nat → Nat) (sz : Nat) : Nat → Prop := fun q => (∃ k, k < 7 ∧ q = o k) ∨ sz ≤ q
theorem xw_at {o : Nat → Nat} {cA : ClassId} {S : SX} : ∀ {k : Nat} {q : Nat × va_E}, (xw o cA S)[k]? = some q → k < 7 ∧ q.1 = o k
  | 0, _, h => by have h2 := Option.some.inj h; rw [← h2]; exact ⟨by decide, rfl⟩
  | 1, _, h => by have h2 := Option.some.inj h; rw [← h2]; exact ⟨by decide, rfl⟩
  | 2, _, h => by have h2 := Option.some.inj h; rw [← h2]; exact ⟨by decide, rfl⟩
  | 3, _, h => by have h2 := Option.some.inj h; rw [← h2]; exact ⟨by decide, rfl⟩
  | 4, _, h => by have h2 := Option.some.inj h; rw [← h2]; exact ⟨by decide, rfl⟩
  | 5, _, h => by have h2 := Option.some.inj h; rw [← h2]; exact ⟨by decide, rfl⟩
  | 6, _, h => by have h2 := Option.some.inj h; rw [← h2]; exact ⟨by decide, rfl⟩
  | k + 7, _, h => by simp [xw] at h
theorem xw_is {o : Nat → Nat} {cA : ClassId} {S : SX} : ∀ {k : Nat}, k < 7 → ∃ e : va_E, (xw o cA S)[k]? = some (o k, e)
  | 0, _ => ⟨_, rfl⟩
  | 1, _ => ⟨_, rfl⟩
  | 2, _ => ⟨_, rfl⟩
  | 3, _ => ⟨_, rfl⟩
  | 4, _ => ⟨_, rfl⟩
  | 5, _ => ⟨_, rfl⟩
  | 6, _ => ⟨_, rfl⟩
  | k + 7, h => absurd h (by omega)
def xW (D : va_G) (o : Nat → Nat) (cA : ClassId) (A : Nat → Prop) (s : State) (H0 : Heap) (S : SX) (H : Heap) (locs : List Loc) : Prop :=
  va_P D vwCl (xw o cA S) H ∧ va_D A (xw o cA S) ∧ va_S A H0 H locs ∧ va_K D vwCl [(cA, .int)] s ∧ ∀ q, H0.size ≤ q → A q
def xPre (D : va_G) (o : Nat → Nat) (cA : ClassId) (sz : Nat) (S : SX) (U : State) : Prop := U.heap.size = sz ∧ va_P D vwCl (xw o cA S) U.heap ∧ va_K D vwCl [(cA, .int)] U ∧ va_D (fun _ => True) (xw o cA S)
def xPost (D : va_G) (o : Nat → Nat) (cA : ClassId) (sz : Nat) (S : SX) (t : State) : Prop := va_P D vwCl (xw o cA S) t.heap ∧ va_K D vwCl [(cA, .int)] t ∧ va_D (xA o sz) (xw o cA S)
def xQi (D : va_G) (o : Nat → Nat) (cA : ClassId) (sz : Nat) (S1 : SX) (r1 : Int32) : Array Value → State → Outcome → State → Prop := va_Qi (fun (r : Int32) (u : SX) => r = r1 ∧ u = S1) (xPost D o cA sz) (xA o sz)
def xQv (D : va_G) (o : Nat → Nat) (cA : ClassId) (sz : Nat) (S1 : SX) : Array Value → State → Outcome → State → Prop := va_Qv (fun (u : SX) => u = S1) (xPost D o cA sz) (xA o sz)
def xMi (l : Launch) (D : va_G) (o : Nat → Nat) (cA : ClassId) (y : MethodName) (code : ByteArray) (maxL : Nat) (ret : Option FieldType) (d : Nat) (As : List Value) (S S1 : SX) (r1 : Int32) : Prop :=
  ∀ sz : Nat, Met l y (.code y code maxL ret :: GT) (rmD d) (va_Pc As (xPre D o cA sz S)) (xQi D o cA sz S1 r1) 0 0 (xA o sz)
def xMv (l : Launch) (D : va_G) (o : Nat → Nat) (cA : ClassId) (y : MethodName) (code : ByteArray) (maxL : Nat) (d : Nat) (As : List Value) (S S1 : SX) : Prop :=
  ∀ sz : Nat, Met l y (.code y code maxL none :: GT) (rmD d) (va_Pc As (xPre D o cA sz S)) (xQv D o cA sz S1) 0 0 (xA o sz)
theorem xw_ne0 {o : Nat → Nat} {cA : ClassId} {S : SX} {f : Nat → Int32} : ∀ {i : Nat}, i ≠ 1 → (xw o cA S)[i]? = (xw o cA (zA S 0 f))[i]?
  | 0, h => rfl
  | 1, h => absurd rfl h
  | 2, h => rfl
  | 3, h => rfl
  | 4, h => rfl
  | 5, h => rfl
  | 6, h => rfl
  | i + 7, _ => by simp [xw]
theorem xw_ne1 {o : Nat → Nat} {cA : ClassId} {S : SX} {f : Nat → Int32} : ∀ {i : Nat}, i ≠ 2 → (xw o cA S)[i]? = (xw o cA (zA S 1 f))[i]?
  | 0, h => rfl
  | 1, h => rfl
  | 2, h => absurd rfl h
  | 3, h => rfl
  | 4, h => rfl
  | 5, h => rfl
  | 6, h => rfl
  | i + 7, _ => by simp [xw]
theorem xw_ne2 {o : Nat → Nat} {cA : ClassId} {S : SX} {f : Nat → Int32} : ∀ {i : Nat}, i ≠ 3 → (xw o cA S)[i]? = (xw o cA (zA S 2 f))[i]?
  | 0, h => rfl
  | 1, h => rfl
  | 2, h => rfl
  | 3, h => absurd rfl h
  | 4, h => rfl
  | 5, h => rfl
  | 6, h => rfl
  | i + 7, _ => by simp [xw]
theorem xw_ne3 {o : Nat → Nat} {cA : ClassId} {S : SX} {f : Nat → Int32} : ∀ {i : Nat}, i ≠ 4 → (xw o cA S)[i]? = (xw o cA (zA S 3 f))[i]?
  | 0, h => rfl
  | 1, h => rfl
  | 2, h => rfl
  | 3, h => rfl
  | 4, h => absurd rfl h
  | 5, h => rfl
  | 6, h => rfl
  | i + 7, _ => by simp [xw]
theorem xw_ne4 {o : Nat → Nat} {cA : ClassId} {S : SX} {f : Nat → Int32} : ∀ {i : Nat}, i ≠ 5 → (xw o cA S)[i]? = (xw o cA (zA S 4 f))[i]?
  | 0, h => rfl
  | 1, h => rfl
  | 2, h => rfl
  | 3, h => rfl
  | 4, h => rfl
  | 5, h => absurd rfl h
  | 6, h => rfl
  | i + 7, _ => by simp [xw]
theorem xw_ne5 {o : Nat → Nat} {cA : ClassId} {S : SX} {f : Nat → Int32} : ∀ {i : Nat}, i ≠ 6 → (xw o cA S)[i]? = (xw o cA (zA S 5 f))[i]?
  | 0, h => rfl
  | 1, h => rfl
  | 2, h => rfl
  | 3, h => rfl
  | 4, h => rfl
  | 5, h => rfl
  | 6, h => absurd rfl h
  | i + 7, _ => by simp [xw]
section Rows_x
variable {p : Program} {l : Launch} {e : Env} {R : Room} {s : State} {m : MethodId} {args : Array Value} {below : List Frame} {meth : Method} {c : Code} {H : Heap} {locs : List Loc} {cells slots : Nat} {Q : State → Prop}
variable {cc : ByteArray} {pc : Nat} {ls : Array Slot} {rest : List Value} {D : va_G} {A : Nat → Prop} {H0 : Heap} {o : Nat → Nat} {cA : ClassId} {S : SX}
theorem x_free (hw : xW D o cA A s H0 S H locs) : ∀ q, xA o H.size q → A q := by
  intro q h
  rcases h with ⟨k, hk, rfl⟩ | h
  · obtain ⟨e, he⟩ := xw_is (o := o) (cA := cA) (S := S) hk
    exact hw.2.1.2 k _ he
  · exact hw.2.2.2.2 q (Nat.le_trans hw.2.2.1.1 h)
theorem x_kept {H1 : Heap} {locs1 : List Loc} (hw : xW D o cA A s H0 S H locs) (hk : ∀ q : Nat, q < H.size → H1[q]? = H[q]?) (hS : va_S A H0 H1 locs1) : xW D o cA A s H0 S H1 locs1 :=
  ⟨hw.1.kept (fun k q hq => hk q.1 (hw.1 k q hq).lt), hw.2.1, hS, hw.2.2.2.1, hw.2.2.2.2⟩
theorem x_met {y : MethodName} {code : ByteArray} {maxL d sz : Nat} {ret : Option FieldType} {As : List Value} {Qc : Array Value → State → Outcome → State → Prop} (hy : plainName y.cls = true) (ho : y.cls = RX0) (hlen : (lg_sl As).length ≤ maxL)
    (body : ∀ (p : Program) (e : Env) (s : State) (m : MethodId) (below : List Frame) (meth : Method) (c : Code) (ls : Array Slot), s.heap.size = sz → p.tables.exec = Jvm.exec → c.code = code → c.maxLocals = maxL → meth.sig.returnType = ret → meth.locks = false → s.vm.findClass RX0 = some m.cls → (∀ w ∈ GT, w.before As.toArray s = true) → lv_has ls maxL (lv_args 0 As) → xW D o cA (xA o s.heap.size) s s.heap S s.heap [] →
      W p l e (rmD d) s m As.toArray below meth c s.heap [] 0 0 (MQ below Qc As.toArray s 0 0 (xA o sz)) (F0 m 0 ls [])) : Met l y (.code y code maxL ret :: GT) (rmD d) (va_Pc As (xPre D o cA sz S)) Qc 0 0 (xA o sz) := by
  refine Met.ofW (cc := code) (maxL := maxL) (ret := ret) hy rfl ?_
  intro p e s m args below meth c s₁ B hml hv
  obtain ⟨rfl, hsz, hP, hK, hD0⟩ := hv
  have hts0 := atoms_spec (ws := Cond.code y code maxL ret :: GT) B.pre
  have hown : s.vm.findClass y.cls = some m.cls := findClass_of_methodNamed B.named
  rw [ho] at hown
  rw [lg_entry_eq]
  exact body p e s m below meth c _ hsz B.exec B.bytes hml B.returns B.notSynchronized hown (fun w h => hts0 w (List.mem_cons_of_mem _ h)) (lv_entry As hlen) ⟨hP, ⟨hD0.1, fun k q hk => Or.inl ⟨k, xw_at hk⟩⟩, va_S.rf, hK, fun q h => Or.inr h⟩
theorem x_reti {r r1 : Int32} {S1 : SX} (hx : p.tables.exec = Jvm.exec) (hb : c.code = cc) (hr : meth.sig.returnType = some .int) (hlocks : meth.locks = false) (hw : xW D o cA (xA o s.heap.size) s s.heap S H locs) (h : r = r1 ∧ S = S1) (hdg : decode cc pc = .ok (.ireturn, 1)) :
    W p l e R s m args below meth c H locs cells slots (MQ below (xQi D o cA s.heap.size S1 r1) args s cells slots (xA o s.heap.size)) (F0 m pc ls [.int r]) := by
  obtain ⟨hP, hD, hS, hK, -⟩ := hw
  exact W.iret (v := r) hx hb hr (fun t ht hW => ⟨⟨r, S, rfl, h, by rw [ht]; exact hP, va_K.moved hW.alike hK, hD⟩, hS.F ht⟩) hS.2.2 hdg hlocks
theorem x_retz {r : Int32} {b : Bool} {S1 : SX} (hx : p.tables.exec = Jvm.exec) (hb : c.code = cc) (hr : meth.sig.returnType = some .boolean) (hlocks : meth.locks = false) (hw : xW D o cA (xA o s.heap.size) s s.heap S H locs) (h : r = bI b ∧ S = S1) (hdg : decode cc pc = .ok (.ireturn, 1)) :
    W p l e R s m args below meth c H locs cells slots (MQ below (xQi D o cA s.heap.size S1 (bI b)) args s cells slots (xA o s.heap.size)) (F0 m pc ls [.int r]) := by
  obtain ⟨hP, hD, hS, hK, -⟩ := hw
  obtain ⟨rfl, h⟩ := h
  exact W.zret (v := bI b) (ty := .boolean) hx hb hr (bI_nar b) (fun t ht hW => ⟨⟨bI b, S, rfl, ⟨rfl, h⟩, by rw [ht]; exact hP, va_K.moved hW.alike hK, hD⟩, hS.F ht⟩) hS.2.2 hdg hlocks
theorem x_retv {S1 : SX} (hx : p.tables.exec = Jvm.exec) (hb : c.code = cc) (hr : meth.sig.returnType = none) (hlocks : meth.locks = false) (hw : xW D o cA (xA o s.heap.size) s s.heap S H locs) (h : S = S1) (hdg : decode cc pc = .ok (.return_, 1)) :
    W p l e R s m args below meth c H locs cells slots (MQ below (xQv D o cA s.heap.size S1) args s cells slots (xA o s.heap.size)) (F0 m pc ls []) := by
  obtain ⟨hP, hD, hS, hK, -⟩ := hw
  exact W.vret hx hb hr (fun t ht hW => ⟨⟨S, rfl, h, by rw [ht]; exact hP, va_K.moved hW.alike hK, hD⟩, hS.F ht⟩) hS.2.2 hdg hlocks
theorem x_cs {y : MethodName} {bytes : ByteArray} {maxL d n index nL : Nat} {ret : Option FieldType} {own : String} {As st0 : List Value} {r1 : Int32} (F : CallFix p m c cc nL s args GT own) (hM : sM l y bytes maxL ret d As r1)
    (cw : CallB R s args own index y bytes maxL ret (.code y bytes maxL ret :: GT) (rmD d) 0 0 n ∧ (Cond.static y).before args s = true) (hw : xW D o cA A s H0 S H locs) (hn : As.length = n) (hsize : ls.size = nL) (hst : st0 = As.reverse ++ rest) (hr : (rest.map fun v => v.category).sum ≤ 8) (hdg : decode cc pc = .ok (.invokestatic index, 3)) (hf : cells ≤ R.cells ∧ slots ≤ R.slots)
    (kk : ∀ (H1 : Heap) (locs1 : List Loc), xW D o cA A s H0 S H1 locs1 → W p l e R s m args below meth c H1 locs1 cells slots Q (F0 m (pc + 3) ls (.int r1 :: rest))) : W p l e R s m args below meth c H locs cells slots Q (F0 m pc ls st0) :=
  s_call F hM cw hn hsize hst hr hdg hf hw.2.2.1 (fun H1 locs1 _ hk hS => kk H1 locs1 (x_kept hw hk hS))
theorem x_ciF {y : MethodName} {bytes : ByteArray} {maxL d n index nL : Nat} {ret : Option FieldType} {own : String} {As st0 : List Value} {r1 : Int32} {S1 : SX} (F : CallFix p m c cc nL s args GT own) (hM : xMi l D o cA y bytes maxL ret d (.ref (o 0) :: As) S S1 r1)
    (cw : CallW R s args own RX0 index y bytes maxL ret (.code y bytes maxL ret :: GT) (rmD d) 0 0 n) (hw : xW D o cA A s H0 S H locs) (hn : As.length = n) (hsize : ls.size = nL) (hst : st0 = As.reverse ++ .ref (o 0) :: rest) (hr : (rest.map fun v => v.category).sum ≤ 8) (hdg : decode cc pc = .ok (.invokevirtual index, 3)) (hf : cells ≤ R.cells ∧ slots ≤ R.slots)
    (kk : ∀ (H1 : Heap) (locs1 : List Loc), xW D o cA A s H0 S1 H1 locs1 → H.size ≤ H1.size → (∀ q : Nat, q < H.size → ¬ xA o H.size q → H1[q]? = H[q]?) → W p l e R s m args below meth c H1 locs1 cells slots Q (F0 m (pc + 3) ls (.int r1 :: rest))) : W p l e R s m args below meth c H locs cells slots Q (F0 m pc ls st0) := by
  subst hst
  obtain ⟨hP, hD, hS, hK, hA⟩ := id hw
  refine va_calli (va_runV (As := As) (rest := rest) F (hM H.size) cw ⟨fun a U g mk q => ?_, ?_, fun U hU hW => ⟨rfl, by rw [hU], by rw [hU]; exact hP, va_K.moved hW.alike hK, hD.weaken (fun _ _ _ _ => trivial)⟩⟩ rfl hn hsize rfl (lv_room hr) hdg ⟨hf.1, hf.2⟩) hS (fun q _ h => x_free hw q h) (x_free hw) (fun r u t H1 locs1 ht hvm hp hB hz1 hk1 hS1 => ?_)
  · obtain ⟨q0, q1, qP, qK, qD⟩ := q
    exact ⟨q0, q1, qP, va_K.moved (u := U) (U := U.calling g mk a) (Vm.Alike.refl U.vm) qK, qD⟩
  · exact va_recv hK hP (show vwCl[0]? = some (RX0, TX0, 10) from rfl) (show (xw o cA S)[0]? = _ from rfl)
  · obtain ⟨rfl, rfl⟩ := hp
    obtain ⟨hP1, hK1, hD1⟩ := hB
    rw [ht] at hP1
    exact kk H1 locs1 ⟨hP1, hD1.weaken (fun k q hk h => x_free hw _ h), hS1, hK, hA⟩ hz1 hk1
theorem x_ci {y : MethodName} {bytes : ByteArray} {maxL d n index nL : Nat} {ret : Option FieldType} {own : String} {As st0 : List Value} {r1 : Int32} {S1 : SX} (F : CallFix p m c cc nL s args GT own) (hM : xMi l D o cA y bytes maxL ret d (.ref (o 0) :: As) S S1 r1)
    (cw : CallW R s args own RX0 index y bytes maxL ret (.code y bytes maxL ret :: GT) (rmD d) 0 0 n) (hw : xW D o cA A s H0 S H locs) (hn : As.length = n) (hsize : ls.size = nL) (hst : st0 = As.reverse ++ .ref (o 0) :: rest) (hr : (rest.map fun v => v.category).sum ≤ 8) (hdg : decode cc pc = .ok (.invokevirtual index, 3)) (hf : cells ≤ R.cells ∧ slots ≤ R.slots)
    (kk : ∀ (H1 : Heap) (locs1 : List Loc), xW D o cA A s H0 S1 H1 locs1 → W p l e R s m args below meth c H1 locs1 cells slots Q (F0 m (pc + 3) ls (.int r1 :: rest))) : W p l e R s m args below meth c H locs cells slots Q (F0 m pc ls st0) :=
  x_ciF F hM cw hw hn hsize hst hr hdg hf (fun H1 locs1 h _ _ => kk H1 locs1 h)
theorem x_cvF {y : MethodName} {bytes : ByteArray} {maxL d n index nL : Nat} {own : String} {As st0 : List Value} {S1 : SX} (F : CallFix p m c cc nL s args GT own) (hM : xMv l D o cA y bytes maxL d (.ref (o 0) :: As) S S1)
    (cw : CallW R s args own RX0 index y bytes maxL none (.code y bytes maxL none :: GT) (rmD d) 0 0 n) (hw : xW D o cA A s H0 S H locs) (hn : As.length = n) (hsize : ls.size = nL) (hst : st0 = As.reverse ++ .ref (o 0) :: rest) (hr : (rest.map fun v => v.category).sum ≤ 8) (hdg : decode cc pc = .ok (.invokevirtual index, 3)) (hf : cells ≤ R.cells ∧ slots ≤ R.slots)
    (kk : ∀ (H1 : Heap) (locs1 : List Loc), xW D o cA A s H0 S1 H1 locs1 → H.size ≤ H1.size → (∀ q : Nat, q < H.size → ¬ xA o H.size q → H1[q]? = H[q]?) → W p l e R s m args below meth c H1 locs1 cells slots Q (F0 m (pc + 3) ls rest)) : W p l e R s m args below meth c H locs cells slots Q (F0 m pc ls st0) := by
  subst hst
  obtain ⟨hP, hD, hS, hK, hA⟩ := id hw
  refine va_callv (va_runV (As := As) (rest := rest) F (hM H.size) cw ⟨fun a U g mk q => ?_, ?_, fun U hU hW => ⟨rfl, by rw [hU], by rw [hU]; exact hP, va_K.moved hW.alike hK, hD.weaken (fun _ _ _ _ => trivial)⟩⟩ rfl hn hsize rfl (lv_room hr) hdg ⟨hf.1, hf.2⟩) hS (fun q _ h => x_free hw q h) (x_free hw) (fun u t H1 locs1 ht hvm hp hB hz1 hk1 hS1 => ?_)
  · obtain ⟨q0, q1, qP, qK, qD⟩ := q
    exact ⟨q0, q1, qP, va_K.moved (u := U) (U := U.calling g mk a) (Vm.Alike.refl U.vm) qK, qD⟩
  · exact va_recv hK hP (show vwCl[0]? = some (RX0, TX0, 10) from rfl) (show (xw o cA S)[0]? = _ from rfl)
  · obtain rfl := hp
    obtain ⟨hP1, hK1, hD1⟩ := hB
    rw [ht] at hP1
    exact kk H1 locs1 ⟨hP1, hD1.weaken (fun k q hk h => x_free hw _ h), hS1, hK, hA⟩ hz1 hk1
theorem x_cv {y : MethodName} {bytes : ByteArray} {maxL d n index nL : Nat} {own : String} {As st0 : List Value} {S1 : SX} (F : CallFix p m c cc nL s args GT own) (hM : xMv l D o cA y bytes maxL d (.ref (o 0) :: As) S S1)
    (cw : CallW R s args own RX0 index y bytes maxL none (.code y bytes maxL none :: GT) (rmD d) 0 0 n) (hw : xW D o cA A s H0 S H locs) (hn : As.length = n) (hsize : ls.size = nL) (hst : st0 = As.reverse ++ .ref (o 0) :: rest) (hr : (rest.map fun v => v.category).sum ≤ 8) (hdg : decode cc pc = .ok (.invokevirtual index, 3)) (hf : cells ≤ R.cells ∧ slots ≤ R.slots)
    (kk : ∀ (H1 : Heap) (locs1 : List Loc), xW D o cA A s H0 S1 H1 locs1 → W p l e R s m args below meth c H1 locs1 cells slots Q (F0 m (pc + 3) ls rest)) : W p l e R s m args below meth c H locs cells slots Q (F0 m pc ls st0) :=
  x_cvF F hM cw hw hn hsize hst hr hdg hf (fun H1 locs1 h _ _ => kk H1 locs1 h)
theorem x_g0 (hx : p.tables.exec = Jvm.exec) (hb : c.code = cc) (hts : ∀ w ∈ GT, w.before args s = true) (hown : s.vm.findClass RX0 = some m.cls) (hw : xW D o cA A s H0 S H locs) (hdg : decode cc pc = .ok (.getfield 9, 3)) (kk : W p l e R s m args below meth c H locs cells slots Q (F0 m (pc + 3) ls (.ref (o 1) :: rest))) : W p l e R s m args below meth c H locs cells slots Q (F0 m pc ls (.ref (o 0) :: rest)) :=
  va_get (D := D) (ci := 0) (v := .ref (o 1)) (C := RX0) (T := TX0) (N := 10) hx hb hts inX0 hown hw.2.2.2.1 hw.1 0 rfl rfl 0 (by decide) (hts (.fieldLink RX0 9 "SnoopBus" "lineStates" "[I") gw_24) (fun _ h9 => h9) rfl hdg kk
theorem x_l0 (hx : p.tables.exec = Jvm.exec) (hb : c.code = cc) (hw : xW D o cA A s H0 S H locs) {n : Nat} (hn : n < 8) (hdg : decode cc pc = .ok (.iaload, 1)) (kk : W p l e R s m args below meth c H locs cells slots Q (F0 m (pc + 1) ls (.int (S.1 0 n) :: rest))) : W p l e R s m args below meth c H locs cells slots Q (F0 m pc ls (.int (nI n) :: .ref (o 1) :: rest)) := by
  refine va_iald hx hb hw.2.2.2.1 hw.1 1 0 rfl rfl (vp_in_nI hn (by decide)) hdg ?_
  rw [nI_clamp (Nat.lt_trans hn (by decide))]
  exact kk
theorem x_s0 (hx : p.tables.exec = Jvm.exec) (hb : c.code = cc) (hw : xW D o cA A s H0 S H locs) {n : Nat} {x : Int32} (hn : n < 8) (hdg : decode cc pc = .ok (.iastore, 1)) (kk : ∀ (H1 : Heap) (locs1 : List Loc), xW D o cA A s H0 (zA S 0 (upd (S.1 0) n x)) H1 locs1 → W p l e R s m args below meth c H1 locs1 cells slots Q (F0 m (pc + 1) ls rest)) : W p l e R s m args below meth c H locs cells slots Q (F0 m pc ls (.int x :: .int (nI n) :: .ref (o 1) :: rest)) := by
  obtain ⟨hP, hD, hS, hK, hA⟩ := hw
  refine va_iast hx hb hK hP hD hS 1 0 rfl rfl (vp_in_nI hn (by decide)) hdg (fun H1 locs1 hP hD hS => ?_)
  rw [nI_clamp (Nat.lt_trans hn (by decide))] at hP hD
  exact kk H1 locs1 ⟨hP, hD, hS, hK, hA⟩
theorem x_r0 {f : Nat → Int32} {H1 : Heap} {locs1 : List Loc} (hw : xW D o cA A s H0 S H locs) (hc : H1[o 1]? = some (vp_cell cA (8, .inl f))) (hk : ∀ q : Nat, q < H.size → q ≠ o 1 → H1[q]? = H[q]?) (hS : va_S A H0 H1 locs1) : xW D o cA A s H0 (zA S 0 f) H1 locs1 := by
  obtain ⟨hP, hD, -, hK, hA⟩ := hw
  refine ⟨fun i q hq => ?_, ⟨fun i j p q hp hq e => ?_, fun i q hq => ?_⟩, hS, hK, hA⟩
  · by_cases hi : i = 1
    · subst hi
      have h2 := Option.some.inj hq
      rw [← h2]
      exact hc
    · have hq2 : (xw o cA S)[i]? = some q := by
        rw [← hq]
        exact xw_ne0 hi
      refine (hP i q hq2).kept (hk q.1 (hP i q hq2).lt (fun e => hi ?_))
      exact hD.1 i 1 q _ hq2 (show (xw o cA S)[1]? = some (o 1, _) from rfl) e
  · obtain ⟨e1, p1⟩ := xw_is (o := o) (cA := cA) (S := S) (xw_at hp).1
    obtain ⟨e2, p2⟩ := xw_is (o := o) (cA := cA) (S := S) (xw_at hq).1
    exact hD.1 i j _ _ p1 p2 (by rw [← (xw_at hp).2, ← (xw_at hq).2]; exact e)
  · obtain ⟨e1, p1⟩ := xw_is (o := o) (cA := cA) (S := S) (xw_at hq).1
    rw [(xw_at hq).2]
    exact hD.2 i _ p1
theorem x_e0 {f : Nat → Int32} (hw : xW D o cA A s H0 S H locs) (h : ∀ j, j < 8 → S.1 0 j = f j) : xW D o cA A s H0 (zA S 0 f) H locs := by
  refine x_r0 hw ?_ (fun q _ _ => rfl) hw.2.2.1
  rw [← arr_congr h]
  exact hw.1 1 _ rfl
theorem x_g1 (hx : p.tables.exec = Jvm.exec) (hb : c.code = cc) (hts : ∀ w ∈ GT, w.before args s = true) (hown : s.vm.findClass RX0 = some m.cls) (hw : xW D o cA A s H0 S H locs) (hdg : decode cc pc = .ok (.getfield 13, 3)) (kk : W p l e R s m args below meth c H locs cells slots Q (F0 m (pc + 3) ls (.ref (o 2) :: rest))) : W p l e R s m args below meth c H locs cells slots Q (F0 m pc ls (.ref (o 0) :: rest)) :=
  va_get (D := D) (ci := 0) (v := .ref (o 2)) (C := RX0) (T := TX0) (N := 10) hx hb hts inX0 hown hw.2.2.2.1 hw.1 0 rfl rfl 1 (by decide) (hts (.fieldLink RX0 13 "SnoopBus" "lineBlocks" "[I") gw_25) (fun _ h9 => h9) rfl hdg kk
theorem x_l1 (hx : p.tables.exec = Jvm.exec) (hb : c.code = cc) (hw : xW D o cA A s H0 S H locs) {n : Nat} (hn : n < 8) (hdg : decode cc pc = .ok (.iaload, 1)) (kk : W p l e R s m args below meth c H locs cells slots Q (F0 m (pc + 1) ls (.int (S.1 1 n) :: rest))) : W p l e R s m args below meth c H locs cells slots Q (F0 m pc ls (.int (nI n) :: .ref (o 2) :: rest)) := by
  refine va_iald hx hb hw.2.2.2.1 hw.1 2 0 rfl rfl (vp_in_nI hn (by decide)) hdg ?_
  rw [nI_clamp (Nat.lt_trans hn (by decide))]
  exact kk
theorem x_s1 (hx : p.tables.exec = Jvm.exec) (hb : c.code = cc) (hw : xW D o cA A s H0 S H locs) {n : Nat} {x : Int32} (hn : n < 8) (hdg : decode cc pc = .ok (.iastore, 1)) (kk : ∀ (H1 : Heap) (locs1 : List Loc), xW D o cA A s H0 (zA S 1 (upd (S.1 1) n x)) H1 locs1 → W p l e R s m args below meth c H1 locs1 cells slots Q (F0 m (pc + 1) ls rest)) : W p l e R s m args below meth c H locs cells slots Q (F0 m pc ls (.int x :: .int (nI n) :: .ref (o 2) :: rest)) := by
  obtain ⟨hP, hD, hS, hK, hA⟩ := hw
  refine va_iast hx hb hK hP hD hS 2 0 rfl rfl (vp_in_nI hn (by decide)) hdg (fun H1 locs1 hP hD hS => ?_)
  rw [nI_clamp (Nat.lt_trans hn (by decide))] at hP hD
  exact kk H1 locs1 ⟨hP, hD, hS, hK, hA⟩
theorem x_r1 {f : Nat → Int32} {H1 : Heap} {locs1 : List Loc} (hw : xW D o cA A s H0 S H locs) (hc : H1[o 2]? = some (vp_cell cA (8, .inl f))) (hk : ∀ q : Nat, q < H.size → q ≠ o 2 → H1[q]? = H[q]?) (hS : va_S A H0 H1 locs1) : xW D o cA A s H0 (zA S 1 f) H1 locs1 := by
  obtain ⟨hP, hD, -, hK, hA⟩ := hw
  refine ⟨fun i q hq => ?_, ⟨fun i j p q hp hq e => ?_, fun i q hq => ?_⟩, hS, hK, hA⟩
  · by_cases hi : i = 2
    · subst hi
      have h2 := Option.some.inj hq
      rw [← h2]
      exact hc
    · have hq2 : (xw o cA S)[i]? = some q := by
        rw [← hq]
        exact xw_ne1 hi
      refine (hP i q hq2).kept (hk q.1 (hP i q hq2).lt (fun e => hi ?_))
      exact hD.1 i 2 q _ hq2 (show (xw o cA S)[2]? = some (o 2, _) from rfl) e
  · obtain ⟨e1, p1⟩ := xw_is (o := o) (cA := cA) (S := S) (xw_at hp).1
    obtain ⟨e2, p2⟩ := xw_is (o := o) (cA := cA) (S := S) (xw_at hq).1
    exact hD.1 i j _ _ p1 p2 (by rw [← (xw_at hp).2, ← (xw_at hq).2]; exact e)
  · obtain ⟨e1, p1⟩ := xw_is (o := o) (cA := cA) (S := S) (xw_at hq).1
    rw [(xw_at hq).2]
    exact hD.2 i _ p1
theorem x_e1 {f : Nat → Int32} (hw : xW D o cA A s H0 S H locs) (h : ∀ j, j < 8 → S.1 1 j = f j) : xW D o cA A s H0 (zA S 1 f) H locs := by
  refine x_r1 hw ?_ (fun q _ _ => rfl) hw.2.2.1
  rw [← arr_congr h]
  exact hw.1 2 _ rfl
theorem x_g2 (hx : p.tables.exec = Jvm.exec) (hb : c.code = cc) (hts : ∀ w ∈ GT, w.before args s = true) (hown : s.vm.findClass RX0 = some m.cls) (hw : xW D o cA A s H0 S H locs) (hdg : decode cc pc = .ok (.getfield 16, 3)) (kk : W p l e R s m args below meth c H locs cells slots Q (F0 m (pc + 3) ls (.ref (o 3) :: rest))) : W p l e R s m args below meth c H locs cells slots Q (F0 m pc ls (.ref (o 0) :: rest)) :=
  va_get (D := D) (ci := 0) (v := .ref (o 3)) (C := RX0) (T := TX0) (N := 10) hx hb hts inX0 hown hw.2.2.2.1 hw.1 0 rfl rfl 2 (by decide) (hts (.fieldLink RX0 16 "SnoopBus" "lineWords" "[I") gw_26) (fun _ h9 => h9) rfl hdg kk
theorem x_l2 (hx : p.tables.exec = Jvm.exec) (hb : c.code = cc) (hw : xW D o cA A s H0 S H locs) {n : Nat} (hn : n < 16) (hdg : decode cc pc = .ok (.iaload, 1)) (kk : W p l e R s m args below meth c H locs cells slots Q (F0 m (pc + 1) ls (.int (S.1 2 n) :: rest))) : W p l e R s m args below meth c H locs cells slots Q (F0 m pc ls (.int (nI n) :: .ref (o 3) :: rest)) := by
  refine va_iald hx hb hw.2.2.2.1 hw.1 3 0 rfl rfl (vp_in_nI hn (by decide)) hdg ?_
  rw [nI_clamp (Nat.lt_trans hn (by decide))]
  exact kk
theorem x_s2 (hx : p.tables.exec = Jvm.exec) (hb : c.code = cc) (hw : xW D o cA A s H0 S H locs) {n : Nat} {x : Int32} (hn : n < 16) (hdg : decode cc pc = .ok (.iastore, 1)) (kk : ∀ (H1 : Heap) (locs1 : List Loc), xW D o cA A s H0 (zA S 2 (upd (S.1 2) n x)) H1 locs1 → W p l e R s m args below meth c H1 locs1 cells slots Q (F0 m (pc + 1) ls rest)) : W p l e R s m args below meth c H locs cells slots Q (F0 m pc ls (.int x :: .int (nI n) :: .ref (o 3) :: rest)) := by
  obtain ⟨hP, hD, hS, hK, hA⟩ := hw
  refine va_iast hx hb hK hP hD hS 3 0 rfl rfl (vp_in_nI hn (by decide)) hdg (fun H1 locs1 hP hD hS => ?_)
  rw [nI_clamp (Nat.lt_trans hn (by decide))] at hP hD
  exact kk H1 locs1 ⟨hP, hD, hS, hK, hA⟩
theorem x_r2 {f : Nat → Int32} {H1 : Heap} {locs1 : List Loc} (hw : xW D o cA A s H0 S H locs) (hc : H1[o 3]? = some (vp_cell cA (16, .inl f))) (hk : ∀ q : Nat, q < H.size → q ≠ o 3 → H1[q]? = H[q]?) (hS : va_S A H0 H1 locs1) : xW D o cA A s H0 (zA S 2 f) H1 locs1 := by
  obtain ⟨hP, hD, -, hK, hA⟩ := hw
  refine ⟨fun i q hq => ?_, ⟨fun i j p q hp hq e => ?_, fun i q hq => ?_⟩, hS, hK, hA⟩
  · by_cases hi : i = 3
    · subst hi
      have h2 := Option.some.inj hq
      rw [← h2]
      exact hc
    · have hq2 : (xw o cA S)[i]? = some q := by
        rw [← hq]
        exact xw_ne2 hi
      refine (hP i q hq2).kept (hk q.1 (hP i q hq2).lt (fun e => hi ?_))
      exact hD.1 i 3 q _ hq2 (show (xw o cA S)[3]? = some (o 3, _) from rfl) e
  · obtain ⟨e1, p1⟩ := xw_is (o := o) (cA := cA) (S := S) (xw_at hp).1
    obtain ⟨e2, p2⟩ := xw_is (o := o) (cA := cA) (S := S) (xw_at hq).1
    exact hD.1 i j _ _ p1 p2 (by rw [← (xw_at hp).2, ← (xw_at hq).2]; exact e)
  · obtain ⟨e1, p1⟩ := xw_is (o := o) (cA := cA) (S := S) (xw_at hq).1
    rw [(xw_at hq).2]
    exact hD.2 i _ p1
theorem x_e2 {f : Nat → Int32} (hw : xW D o cA A s H0 S H locs) (h : ∀ j, j < 16 → S.1 2 j = f j) : xW D o cA A s H0 (zA S 2 f) H locs := by
  refine x_r2 hw ?_ (fun q _ _ => rfl) hw.2.2.1
  rw [← arr_congr h]
  exact hw.1 3 _ rfl
theorem x_g3 (hx : p.tables.exec = Jvm.exec) (hb : c.code = cc) (hts : ∀ w ∈ GT, w.before args s = true) (hown : s.vm.findClass RX0 = some m.cls) (hw : xW D o cA A s H0 S H locs) (hdg : decode cc pc = .ok (.getfield 19, 3)) (kk : W p l e R s m args below meth c H locs cells slots Q (F0 m (pc + 3) ls (.ref (o 4) :: rest))) : W p l e R s m args below meth c H locs cells slots Q (F0 m pc ls (.ref (o 0) :: rest)) :=
  va_get (D := D) (ci := 0) (v := .ref (o 4)) (C := RX0) (T := TX0) (N := 10) hx hb hts inX0 hown hw.2.2.2.1 hw.1 0 rfl rfl 3 (by decide) (hts (.fieldLink RX0 19 "SnoopBus" "memoryWords" "[I") gw_27) (fun _ h9 => h9) rfl hdg kk
theorem x_l3 (hx : p.tables.exec = Jvm.exec) (hb : c.code = cc) (hw : xW D o cA A s H0 S H locs) {n : Nat} (hn : n < 32) (hdg : decode cc pc = .ok (.iaload, 1)) (kk : W p l e R s m args below meth c H locs cells slots Q (F0 m (pc + 1) ls (.int (S.1 3 n) :: rest))) : W p l e R s m args below meth c H locs cells slots Q (F0 m pc ls (.int (nI n) :: .ref (o 4) :: rest)) := by
  refine va_iald hx hb hw.2.2.2.1 hw.1 4 0 rfl rfl (vp_in_nI hn (by decide)) hdg ?_
  rw [nI_clamp (Nat.lt_trans hn (by decide))]
  exact kk
theorem x_s3 (hx : p.tables.exec = Jvm.exec) (hb : c.code = cc) (hw : xW D o cA A s H0 S H locs) {n : Nat} {x : Int32} (hn : n < 32) (hdg : decode cc pc = .ok (.iastore, 1)) (kk : ∀ (H1 : Heap) (locs1 : List Loc), xW D o cA A s H0 (zA S 3 (upd (S.1 3) n x)) H1 locs1 → W p l e R s m args below meth c H1 locs1 cells slots Q (F0 m (pc + 1) ls rest)) : W p l e R s m args below meth c H locs cells slots Q (F0 m pc ls (.int x :: .int (nI n) :: .ref (o 4) :: rest)) := by
  obtain ⟨hP, hD, hS, hK, hA⟩ := hw
  refine va_iast hx hb hK hP hD hS 4 0 rfl rfl (vp_in_nI hn (by decide)) hdg (fun H1 locs1 hP hD hS => ?_)
  rw [nI_clamp (Nat.lt_trans hn (by decide))] at hP hD
  exact kk H1 locs1 ⟨hP, hD, hS, hK, hA⟩
theorem x_r3 {f : Nat → Int32} {H1 : Heap} {locs1 : List Loc} (hw : xW D o cA A s H0 S H locs) (hc : H1[o 4]? = some (vp_cell cA (32, .inl f))) (hk : ∀ q : Nat, q < H.size → q ≠ o 4 → H1[q]? = H[q]?) (hS : va_S A H0 H1 locs1) : xW D o cA A s H0 (zA S 3 f) H1 locs1 := by
  obtain ⟨hP, hD, -, hK, hA⟩ := hw
  refine ⟨fun i q hq => ?_, ⟨fun i j p q hp hq e => ?_, fun i q hq => ?_⟩, hS, hK, hA⟩
  · by_cases hi : i = 4
    · subst hi
      have h2 := Option.some.inj hq
      rw [← h2]
      exact hc
    · have hq2 : (xw o cA S)[i]? = some q := by
        rw [← hq]
        exact xw_ne3 hi
      refine (hP i q hq2).kept (hk q.1 (hP i q hq2).lt (fun e => hi ?_))
      exact hD.1 i 4 q _ hq2 (show (xw o cA S)[4]? = some (o 4, _) from rfl) e
  · obtain ⟨e1, p1⟩ := xw_is (o := o) (cA := cA) (S := S) (xw_at hp).1
    obtain ⟨e2, p2⟩ := xw_is (o := o) (cA := cA) (S := S) (xw_at hq).1
    exact hD.1 i j _ _ p1 p2 (by rw [← (xw_at hp).2, ← (xw_at hq).2]; exact e)
  · obtain ⟨e1, p1⟩ := xw_is (o := o) (cA := cA) (S := S) (xw_at hq).1
    rw [(xw_at hq).2]
    exact hD.2 i _ p1
theorem x_e3 {f : Nat → Int32} (hw : xW D o cA A s H0 S H locs) (h : ∀ j, j < 32 → S.1 3 j = f j) : xW D o cA A s H0 (zA S 3 f) H locs := by
  refine x_r3 hw ?_ (fun q _ _ => rfl) hw.2.2.1
  rw [← arr_congr h]
  exact hw.1 4 _ rfl
theorem x_g4 (hx : p.tables.exec = Jvm.exec) (hb : c.code = cc) (hts : ∀ w ∈ GT, w.before args s = true) (hown : s.vm.findClass RX0 = some m.cls) (hw : xW D o cA A s H0 S H locs) (hdg : decode cc pc = .ok (.getfield 22, 3)) (kk : W p l e R s m args below meth c H locs cells slots Q (F0 m (pc + 3) ls (.ref (o 5) :: rest))) : W p l e R s m args below meth c H locs cells slots Q (F0 m pc ls (.ref (o 0) :: rest)) :=
  va_get (D := D) (ci := 0) (v := .ref (o 5)) (C := RX0) (T := TX0) (N := 10) hx hb hts inX0 hown hw.2.2.2.1 hw.1 0 rfl rfl 4 (by decide) (hts (.fieldLink RX0 22 "SnoopBus" "kindCounts" "[I") gw_28) (fun _ h9 => h9) rfl hdg kk
theorem x_l4 (hx : p.tables.exec = Jvm.exec) (hb : c.code = cc) (hw : xW D o cA A s H0 S H locs) {n : Nat} (hn : n < 5) (hdg : decode cc pc = .ok (.iaload, 1)) (kk : W p l e R s m args below meth c H locs cells slots Q (F0 m (pc + 1) ls (.int (S.1 4 n) :: rest))) : W p l e R s m args below meth c H locs cells slots Q (F0 m pc ls (.int (nI n) :: .ref (o 5) :: rest)) := by
  refine va_iald hx hb hw.2.2.2.1 hw.1 5 0 rfl rfl (vp_in_nI hn (by decide)) hdg ?_
  rw [nI_clamp (Nat.lt_trans hn (by decide))]
  exact kk
theorem x_s4 (hx : p.tables.exec = Jvm.exec) (hb : c.code = cc) (hw : xW D o cA A s H0 S H locs) {n : Nat} {x : Int32} (hn : n < 5) (hdg : decode cc pc = .ok (.iastore, 1)) (kk : ∀ (H1 : Heap) (locs1 : List Loc), xW D o cA A s H0 (zA S 4 (upd (S.1 4) n x)) H1 locs1 → W p l e R s m args below meth c H1 locs1 cells slots Q (F0 m (pc + 1) ls rest)) : W p l e R s m args below meth c H locs cells slots Q (F0 m pc ls (.int x :: .int (nI n) :: .ref (o 5) :: rest)) := by
  obtain ⟨hP, hD, hS, hK, hA⟩ := hw
  refine va_iast hx hb hK hP hD hS 5 0 rfl rfl (vp_in_nI hn (by decide)) hdg (fun H1 locs1 hP hD hS => ?_)
  rw [nI_clamp (Nat.lt_trans hn (by decide))] at hP hD
  exact kk H1 locs1 ⟨hP, hD, hS, hK, hA⟩
theorem x_r4 {f : Nat → Int32} {H1 : Heap} {locs1 : List Loc} (hw : xW D o cA A s H0 S H locs) (hc : H1[o 5]? = some (vp_cell cA (5, .inl f))) (hk : ∀ q : Nat, q < H.size → q ≠ o 5 → H1[q]? = H[q]?) (hS : va_S A H0 H1 locs1) : xW D o cA A s H0 (zA S 4 f) H1 locs1 := by
  obtain ⟨hP, hD, -, hK, hA⟩ := hw
  refine ⟨fun i q hq => ?_, ⟨fun i j p q hp hq e => ?_, fun i q hq => ?_⟩, hS, hK, hA⟩
  · by_cases hi : i = 5
    · subst hi
      have h2 := Option.some.inj hq
      rw [← h2]
      exact hc
    · have hq2 : (xw o cA S)[i]? = some q := by
        rw [← hq]
        exact xw_ne4 hi
      refine (hP i q hq2).kept (hk q.1 (hP i q hq2).lt (fun e => hi ?_))
      exact hD.1 i 5 q _ hq2 (show (xw o cA S)[5]? = some (o 5, _) from rfl) e
  · obtain ⟨e1, p1⟩ := xw_is (o := o) (cA := cA) (S := S) (xw_at hp).1
    obtain ⟨e2, p2⟩ := xw_is (o := o) (cA := cA) (S := S) (xw_at hq).1
    exact hD.1 i j _ _ p1 p2 (by rw [← (xw_at hp).2, ← (xw_at hq).2]; exact e)
  · obtain ⟨e1, p1⟩ := xw_is (o := o) (cA := cA) (S := S) (xw_at hq).1
    rw [(xw_at hq).2]
    exact hD.2 i _ p1
theorem x_e4 {f : Nat → Int32} (hw : xW D o cA A s H0 S H locs) (h : ∀ j, j < 5 → S.1 4 j = f j) : xW D o cA A s H0 (zA S 4 f) H locs := by
  refine x_r4 hw ?_ (fun q _ _ => rfl) hw.2.2.1
  rw [← arr_congr h]
  exact hw.1 5 _ rfl
theorem x_g5 (hx : p.tables.exec = Jvm.exec) (hb : c.code = cc) (hts : ∀ w ∈ GT, w.before args s = true) (hown : s.vm.findClass RX0 = some m.cls) (hw : xW D o cA A s H0 S H locs) (hdg : decode cc pc = .ok (.getfield 25, 3)) (kk : W p l e R s m args below meth c H locs cells slots Q (F0 m (pc + 3) ls (.ref (o 6) :: rest))) : W p l e R s m args below meth c H locs cells slots Q (F0 m pc ls (.ref (o 0) :: rest)) :=
  va_get (D := D) (ci := 0) (v := .ref (o 6)) (C := RX0) (T := TX0) (N := 10) hx hb hts inX0 hown hw.2.2.2.1 hw.1 0 rfl rfl 5 (by decide) (hts (.fieldLink RX0 25 "SnoopBus" "recent" "[I") gw_29) (fun _ h9 => h9) rfl hdg kk
theorem x_l5 (hx : p.tables.exec = Jvm.exec) (hb : c.code = cc) (hw : xW D o cA A s H0 S H locs) {n : Nat} (hn : n < 8) (hdg : decode cc pc = .ok (.iaload, 1)) (kk : W p l e R s m args below meth c H locs cells slots Q (F0 m (pc + 1) ls (.int (S.1 5 n) :: rest))) : W p l e R s m args below meth c H locs cells slots Q (F0 m pc ls (.int (nI n) :: .ref (o 6) :: rest)) := by
  refine va_iald hx hb hw.2.2.2.1 hw.1 6 0 rfl rfl (vp_in_nI hn (by decide)) hdg ?_
  rw [nI_clamp (Nat.lt_trans hn (by decide))]
  exact kk
theorem x_s5 (hx : p.tables.exec = Jvm.exec) (hb : c.code = cc) (hw : xW D o cA A s H0 S H locs) {n : Nat} {x : Int32} (hn : n < 8) (hdg : decode cc pc = .ok (.iastore, 1)) (kk : ∀ (H1 : Heap) (locs1 : List Loc), xW D o cA A s H0 (zA S 5 (upd (S.1 5) n x)) H1 locs1 → W p l e R s m args below meth c H1 locs1 cells slots Q (F0 m (pc + 1) ls rest)) : W p l e R s m args below meth c H locs cells slots Q (F0 m pc ls (.int x :: .int (nI n) :: .ref (o 6) :: rest)) := by
  obtain ⟨hP, hD, hS, hK, hA⟩ := hw
  refine va_iast hx hb hK hP hD hS 6 0 rfl rfl (vp_in_nI hn (by decide)) hdg (fun H1 locs1 hP hD hS => ?_)
  rw [nI_clamp (Nat.lt_trans hn (by decide))] at hP hD
  exact kk H1 locs1 ⟨hP, hD, hS, hK, hA⟩
theorem x_r5 {f : Nat → Int32} {H1 : Heap} {locs1 : List Loc} (hw : xW D o cA A s H0 S H locs) (hc : H1[o 6]? = some (vp_cell cA (8, .inl f))) (hk : ∀ q : Nat, q < H.size → q ≠ o 6 → H1[q]? = H[q]?) (hS : va_S A H0 H1 locs1) : xW D o cA A s H0 (zA S 5 f) H1 locs1 := by
  obtain ⟨hP, hD, -, hK, hA⟩ := hw
  refine ⟨fun i q hq => ?_, ⟨fun i j p q hp hq e => ?_, fun i q hq => ?_⟩, hS, hK, hA⟩
  · by_cases hi : i = 6
    · subst hi
      have h2 := Option.some.inj hq
      rw [← h2]
      exact hc
    · have hq2 : (xw o cA S)[i]? = some q := by
        rw [← hq]
        exact xw_ne5 hi
      refine (hP i q hq2).kept (hk q.1 (hP i q hq2).lt (fun e => hi ?_))
      exact hD.1 i 6 q _ hq2 (show (xw o cA S)[6]? = some (o 6, _) from rfl) e
  · obtain ⟨e1, p1⟩ := xw_is (o := o) (cA := cA) (S := S) (xw_at hp).1
    obtain ⟨e2, p2⟩ := xw_is (o := o) (cA := cA) (S := S) (xw_at hq).1
    exact hD.1 i j _ _ p1 p2 (by rw [← (xw_at hp).2, ← (xw_at hq).2]; exact e)
  · obtain ⟨e1, p1⟩ := xw_is (o := o) (cA := cA) (S := S) (xw_at hq).1
    rw [(xw_at hq).2]
    exact hD.2 i _ p1
theorem x_e5 {f : Nat → Int32} (hw : xW D o cA A s H0 S H locs) (h : ∀ j, j < 8 → S.1 5 j = f j) : xW D o cA A s H0 (zA S 5 f) H locs := by
  refine x_r5 hw ?_ (fun q _ _ => rfl) hw.2.2.1
  rw [← arr_congr h]
  exact hw.1 6 _ rfl
theorem x_f0 (hx : p.tables.exec = Jvm.exec) (hb : c.code = cc) (hts : ∀ w ∈ GT, w.before args s = true) (hown : s.vm.findClass RX0 = some m.cls) (hw : xW D o cA A s H0 S H locs) (hdg : decode cc pc = .ok (.getfield 32, 3)) (kk : W p l e R s m args below meth c H locs cells slots Q (F0 m (pc + 3) ls (.int (S.2 0) :: rest))) : W p l e R s m args below meth c H locs cells slots Q (F0 m pc ls (.ref (o 0) :: rest)) :=
  va_get (D := D) (ci := 0) (v := .int (S.2 0)) (C := RX0) (T := TX0) (N := 10) hx hb hts inX0 hown hw.2.2.2.1 hw.1 0 rfl rfl 6 (by decide) (hts (.fieldLink RX0 32 "SnoopBus" "chosen" "I") gw_30) (fun _ h9 => h9) rfl hdg kk
theorem x_p0 (hx : p.tables.exec = Jvm.exec) (hb : c.code = cc) (hts : ∀ w ∈ GT, w.before args s = true) (hown : s.vm.findClass RX0 = some m.cls) (hw : xW D o cA A s H0 S H locs) {x : Int32} (hdg : decode cc pc = .ok (.putfield 32, 3)) (kk : ∀ (H1 : Heap) (locs1 : List Loc), xW D o cA A s H0 (zF S 0 x) H1 locs1 → W p l e R s m args below meth c H1 locs1 cells slots Q (F0 m (pc + 3) ls rest)) : W p l e R s m args below meth c H locs cells slots Q (F0 m pc ls (.int x :: .ref (o 0) :: rest)) := by
  obtain ⟨hP, hD, hS, hK, hA⟩ := hw
  exact va_put (D := D) (ci := 0) (v := .int x) (ty := .int) (C := RX0) (T := TX0) (N := 10) hx hb hts inX0 tyX0 tyX0_ok nmX0 hown hK hP hD hS 0 rfl rfl 6 (by decide) (hts (.fieldLink RX0 32 "SnoopBus" "chosen" "I") gw_30) (fun _ h9 => h9) rfl (by decide +kernel) rfl rfl (Nat.le_of_ble_eq_true rfl) hdg (fun H1 locs1 hP hD hS => kk H1 locs1 ⟨hP, hD, hS, hK, hA⟩)
theorem x_f1 (hx : p.tables.exec = Jvm.exec) (hb : c.code = cc) (hts : ∀ w ∈ GT, w.before args s = true) (hown : s.vm.findClass RX0 = some m.cls) (hw : xW D o cA A s H0 S H locs) (hdg : decode cc pc = .ok (.getfield 62, 3)) (kk : W p l e R s m args below meth c H locs cells slots Q (F0 m (pc + 3) ls (.int (S.2 1) :: rest))) : W p l e R s m args below meth c H locs cells slots Q (F0 m pc ls (.ref (o 0) :: rest)) :=
  va_get (D := D) (ci := 0) (v := .int (S.2 1)) (C := RX0) (T := TX0) (N := 10) hx hb hts inX0 hown hw.2.2.2.1 hw.1 0 rfl rfl 7 (by decide) (hts (.fieldLink RX0 62 "SnoopBus" "transactions" "I") gw_31) (fun _ h9 => h9) rfl hdg kk
theorem x_p1 (hx : p.tables.exec = Jvm.exec) (hb : c.code = cc) (hts : ∀ w ∈ GT, w.before args s = true) (hown : s.vm.findClass RX0 = some m.cls) (hw : xW D o cA A s H0 S H locs) {x : Int32} (hdg : decode cc pc = .ok (.putfield 62, 3)) (kk : ∀ (H1 : Heap) (locs1 : List Loc), xW D o cA A s H0 (zF S 1 x) H1 locs1 → W p l e R s m args below meth c H1 locs1 cells slots Q (F0 m (pc + 3) ls rest)) : W p l e R s m args below meth c H locs cells slots Q (F0 m pc ls (.int x :: .ref (o 0) :: rest)) := by
  obtain ⟨hP, hD, hS, hK, hA⟩ := hw
  exact va_put (D := D) (ci := 0) (v := .int x) (ty := .int) (C := RX0) (T := TX0) (N := 10) hx hb hts inX0 tyX0 tyX0_ok nmX0 hown hK hP hD hS 0 rfl rfl 7 (by decide) (hts (.fieldLink RX0 62 "SnoopBus" "transactions" "I") gw_31) (fun _ h9 => h9) rfl (by decide +kernel) rfl rfl (Nat.le_of_ble_eq_true rfl) hdg (fun H1 locs1 hP hD hS => kk H1 locs1 ⟨hP, hD, hS, hK, hA⟩)
theorem x_f2 (hx : p.tables.exec = Jvm.exec) (hb : c.code = cc) (hts : ∀ w ∈ GT, w.before args s = true) (hown : s.vm.findClass RX0 = some m.cls) (hw : xW D o cA A s H0 S H locs) (hdg : decode cc pc = .ok (.getfield 96, 3)) (kk : W p l e R s m args below meth c H locs cells slots Q (F0 m (pc + 3) ls (.int (S.2 2) :: rest))) : W p l e R s m args below meth c H locs cells slots Q (F0 m pc ls (.ref (o 0) :: rest)) :=
  va_get (D := D) (ci := 0) (v := .int (S.2 2)) (C := RX0) (T := TX0) (N := 10) hx hb hts inX0 hown hw.2.2.2.1 hw.1 0 rfl rfl 8 (by decide) (hts (.fieldLink RX0 96 "SnoopBus" "hitCount" "I") gw_32) (fun _ h9 => h9) rfl hdg kk
theorem x_p2 (hx : p.tables.exec = Jvm.exec) (hb : c.code = cc) (hts : ∀ w ∈ GT, w.before args s = true) (hown : s.vm.findClass RX0 = some m.cls) (hw : xW D o cA A s H0 S H locs) {x : Int32} (hdg : decode cc pc = .ok (.putfield 96, 3)) (kk : ∀ (H1 : Heap) (locs1 : List Loc), xW D o cA A s H0 (zF S 2 x) H1 locs1 → W p l e R s m args below meth c H1 locs1 cells slots Q (F0 m (pc + 3) ls rest)) : W p l e R s m args below meth c H locs cells slots Q (F0 m pc ls (.int x :: .ref (o 0) :: rest)) := by
  obtain ⟨hP, hD, hS, hK, hA⟩ := hw
  exact va_put (D := D) (ci := 0) (v := .int x) (ty := .int) (C := RX0) (T := TX0) (N := 10) hx hb hts inX0 tyX0 tyX0_ok nmX0 hown hK hP hD hS 0 rfl rfl 8 (by decide) (hts (.fieldLink RX0 96 "SnoopBus" "hitCount" "I") gw_32) (fun _ h9 => h9) rfl (by decide +kernel) rfl rfl (Nat.le_of_ble_eq_true rfl) hdg (fun H1 locs1 hP hD hS => kk H1 locs1 ⟨hP, hD, hS, hK, hA⟩)
theorem x_f3 (hx : p.tables.exec = Jvm.exec) (hb : c.code = cc) (hts : ∀ w ∈ GT, w.before args s = true) (hown : s.vm.findClass RX0 = some m.cls) (hw : xW D o cA A s H0 S H locs) (hdg : decode cc pc = .ok (.getfield 99, 3)) (kk : W p l e R s m args below meth c H locs cells slots Q (F0 m (pc + 3) ls (.int (S.2 3) :: rest))) : W p l e R s m args below meth c H locs cells slots Q (F0 m pc ls (.ref (o 0) :: rest)) :=
  va_get (D := D) (ci := 0) (v := .int (S.2 3)) (C := RX0) (T := TX0) (N := 10) hx hb hts inX0 hown hw.2.2.2.1 hw.1 0 rfl rfl 9 (by decide) (hts (.fieldLink RX0 99 "SnoopBus" "missCount" "I") gw_33) (fun _ h9 => h9) rfl hdg kk
theorem x_p3 (hx : p.tables.exec = Jvm.exec) (hb : c.code = cc) (hts : ∀ w ∈ GT, w.before args s = true) (hown : s.vm.findClass RX0 = some m.cls) (hw : xW D o cA A s H0 S H locs) {x : Int32} (hdg : decode cc pc = .ok (.putfield 99, 3)) (kk : ∀ (H1 : Heap) (locs1 : List Loc), xW D o cA A s H0 (zF S 3 x) H1 locs1 → W p l e R s m args below meth c H1 locs1 cells slots Q (F0 m (pc + 3) ls rest)) : W p l e R s m args below meth c H locs cells slots Q (F0 m pc ls (.int x :: .ref (o 0) :: rest)) := by
  obtain ⟨hP, hD, hS, hK, hA⟩ := hw
  exact va_put (D := D) (ci := 0) (v := .int x) (ty := .int) (C := RX0) (T := TX0) (N := 10) hx hb hts inX0 tyX0 tyX0_ok nmX0 hown hK hP hD hS 0 rfl rfl 9 (by decide) (hts (.fieldLink RX0 99 "SnoopBus" "missCount" "I") gw_33) (fun _ h9 => h9) rfl (by decide +kernel) rfl rfl (Nat.le_of_ble_eq_true rfl) hdg (fun H1 locs1 hP hD hS => kk H1 locs1 ⟨hP, hD, hS, hK, hA⟩)
theorem x_cp23 (hx : p.tables.exec = Jvm.exec) (hb : c.code = cc) (hml : c.maxLocals = ls.size) (hts : ∀ w ∈ GT, w.before args s = true) (hown : s.vm.findClass RX0 = some m.cls) (hw : xW D o cA A s H0 S H locs) {sp dp n : Nat} (h1 : sp + n ≤ 16) (h2 : dp + n ≤ 32) (hfr : 1 ≤ R.frames) (hlo : (rest.map fun v => v.category).sum + (nativeFrameWords "java/lang/System" "arraycopy" 5 + 11) ≤ R.locals) (hdg : decode cc pc = .ok (.invokestatic 108, 3))
    (kk : ∀ (H1 : Heap) (locs1 : List Loc), xW D o cA A s H0 (zA S 3 (va_cpy (S.1 2) (S.1 3) sp dp n)) H1 locs1 → W p l e R s m args below meth c H1 locs1 cells slots Q (F0 m (pc + 3) ls rest)) : W p l e R s m args below meth c H locs cells slots Q (F0 m pc ls (.int (nI n) :: .int (nI dp) :: .ref (o 4) :: .int (nI sp) :: .ref (o 3) :: rest)) := by
  obtain ⟨hP, hD, hS, hK, hA⟩ := hw
  have b1 : sp < 2 ^ 31 := Nat.lt_of_le_of_lt (Nat.le_trans (Nat.le_add_right sp n) h1) (by decide)
  have b2 : dp < 2 ^ 31 := Nat.lt_of_le_of_lt (Nat.le_trans (Nat.le_add_right dp n) h2) (by decide)
  have b3 : n < 2 ^ 31 := Nat.lt_of_le_of_lt (Nat.le_trans (Nat.le_add_left n sp) h1) (by decide)
  have e1 := nI_clamp b1
  have e2 := nI_clamp b2
  have e3 := nI_clamp b3
  refine va_copyi (ty := .int) hx hb hml hown (hts _ gw_59) (hts _ gw_61) (hts _ gw_60) (hts _ gw_8) hK hP hD hS 3 4 0 0 rfl rfl rfl rfl rfl (nI_pos b1) (nI_pos b2) (nI_pos b3) (by rw [e1, e3]; exact h1) (by rw [e2, e3]; exact h2) (fun i _ => rfl) hfr hlo hdg (fun H1 locs1 hP hD hS => ?_)
  rw [e1, e2, e3] at hP hD
  exact kk H1 locs1 ⟨hP, hD, hS, hK, hA⟩
theorem x_cp32 (hx : p.tables.exec = Jvm.exec) (hb : c.code = cc) (hml : c.maxLocals = ls.size) (hts : ∀ w ∈ GT, w.before args s = true) (hown : s.vm.findClass RX0 = some m.cls) (hw : xW D o cA A s H0 S H locs) {sp dp n : Nat} (h1 : sp + n ≤ 32) (h2 : dp + n ≤ 16) (hfr : 1 ≤ R.frames) (hlo : (rest.map fun v => v.category).sum + (nativeFrameWords "java/lang/System" "arraycopy" 5 + 11) ≤ R.locals) (hdg : decode cc pc = .ok (.invokestatic 108, 3))
    (kk : ∀ (H1 : Heap) (locs1 : List Loc), xW D o cA A s H0 (zA S 2 (va_cpy (S.1 3) (S.1 2) sp dp n)) H1 locs1 → W p l e R s m args below meth c H1 locs1 cells slots Q (F0 m (pc + 3) ls rest)) : W p l e R s m args below meth c H locs cells slots Q (F0 m pc ls (.int (nI n) :: .int (nI dp) :: .ref (o 3) :: .int (nI sp) :: .ref (o 4) :: rest)) := by
  obtain ⟨hP, hD, hS, hK, hA⟩ := hw
  have b1 : sp < 2 ^ 31 := Nat.lt_of_le_of_lt (Nat.le_trans (Nat.le_add_right sp n) h1) (by decide)
  have b2 : dp < 2 ^ 31 := Nat.lt_of_le_of_lt (Nat.le_trans (Nat.le_add_right dp n) h2) (by decide)
  have b3 : n < 2 ^ 31 := Nat.lt_of_le_of_lt (Nat.le_trans (Nat.le_add_left n sp) h1) (by decide)
  have e1 := nI_clamp b1
  have e2 := nI_clamp b2
  have e3 := nI_clamp b3
  refine va_copyi (ty := .int) hx hb hml hown (hts _ gw_59) (hts _ gw_61) (hts _ gw_60) (hts _ gw_8) hK hP hD hS 4 3 0 0 rfl rfl rfl rfl rfl (nI_pos b1) (nI_pos b2) (nI_pos b3) (by rw [e1, e3]; exact h1) (by rw [e2, e3]; exact h2) (fun i _ => rfl) hfr hlo hdg (fun H1 locs1 hP hD hS => ?_)
  rw [e1, e2, e3] at hP hD
  exact kk H1 locs1 ⟨hP, hD, hS, hK, hA⟩
theorem x_cp22 (hx : p.tables.exec = Jvm.exec) (hb : c.code = cc) (hml : c.maxLocals = ls.size) (hts : ∀ w ∈ GT, w.before args s = true) (hown : s.vm.findClass RX0 = some m.cls) (hw : xW D o cA A s H0 S H locs) {sp dp n : Nat} (h1 : sp + n ≤ 16) (h2 : dp + n ≤ 16) (hfr : 1 ≤ R.frames) (hlo : (rest.map fun v => v.category).sum + (nativeFrameWords "java/lang/System" "arraycopy" 5 + 11) ≤ R.locals) (hdg : decode cc pc = .ok (.invokestatic 108, 3))
    (kk : ∀ (H1 : Heap) (locs1 : List Loc), xW D o cA A s H0 (zA S 2 (va_cpy (S.1 2) (S.1 2) sp dp n)) H1 locs1 → W p l e R s m args below meth c H1 locs1 cells slots Q (F0 m (pc + 3) ls rest)) : W p l e R s m args below meth c H locs cells slots Q (F0 m pc ls (.int (nI n) :: .int (nI dp) :: .ref (o 3) :: .int (nI sp) :: .ref (o 3) :: rest)) := by
  obtain ⟨hP, hD, hS, hK, hA⟩ := hw
  have b1 : sp < 2 ^ 31 := Nat.lt_of_le_of_lt (Nat.le_trans (Nat.le_add_right sp n) h1) (by decide)
  have b2 : dp < 2 ^ 31 := Nat.lt_of_le_of_lt (Nat.le_trans (Nat.le_add_right dp n) h2) (by decide)
  have b3 : n < 2 ^ 31 := Nat.lt_of_le_of_lt (Nat.le_trans (Nat.le_add_left n sp) h1) (by decide)
  have e1 := nI_clamp b1
  have e2 := nI_clamp b2
  have e3 := nI_clamp b3
  refine va_copyi (ty := .int) hx hb hml hown (hts _ gw_59) (hts _ gw_61) (hts _ gw_60) (hts _ gw_8) hK hP hD hS 3 3 0 0 rfl rfl rfl rfl rfl (nI_pos b1) (nI_pos b2) (nI_pos b3) (by rw [e1, e3]; exact h1) (by rw [e2, e3]; exact h2) (fun i _ => rfl) hfr hlo hdg (fun H1 locs1 hP hD hS => ?_)
  rw [e1, e2, e3] at hP hD
  exact kk H1 locs1 ⟨hP, hD, hS, hK, hA⟩
end Rows_x
