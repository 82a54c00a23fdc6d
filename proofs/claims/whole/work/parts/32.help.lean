def rmH : Room := { frames := 7, cells := 1, slots := 6, locals := 320 }
def hw1 (q : Nat) (cL : ClassId) (z : Nat → Int64) : va_W := [(q, .inl (cL, 1, .inr (.inl z)))]
def hA (o : Nat → Nat) (q sz : Nat) : Nat → Prop := fun a => xA o sz a ∨ a = q
def hPre (D : va_G) (o : Nat → Nat) (cA : ClassId) (q : Nat) (cL : ClassId) (sa sb sc sz : Nat) (S : SX) (z : Nat → Int64) (U : State) : Prop := xPre D o cA sz S U ∧ va_P D vwCl (hw1 q cL z) U.heap ∧ va_K D vwCl [(cL, .long)] U ∧ (∀ i, i < 7 → q ≠ o i) ∧ EN (hA o q sz) sa sb sc U U.heap ∧ va_Nc "java/lang/IllegalStateException" "java/lang/IllegalArgumentException" U
def hQ (D : va_G) (o : Nat → Nat) (cA : ClassId) (q : Nat) (cL : ClassId) (sz : Nat) (S1 : SX) (z1 : Nat → Int64) (r1 : Int32) : Array Value → State → Outcome → State → Prop := va_Qi (fun (r : Int32) (_ : Unit) => r = r1) (fun _ t => va_P D vwCl (xw o cA S1) t.heap ∧ va_P D vwCl (hw1 q cL z1) t.heap) (hA o q sz)
def hM (l : Launch) (D : va_G) (o : Nat → Nat) (cA : ClassId) (q : Nat) (cL : ClassId) (sa sb sc : Nat) (y : MethodName) (code : ByteArray) (maxL : Nat) (hh : List (Nat × Nat × Nat × Nat)) (As : List Value) (S : SX) (z : Nat → Int64) (S1 : SX) (z1 : Nat → Int64) (r1 : Int32) : Prop :=
  ∀ sz : Nat, Met l y (.codeWith y code maxL (some .int) hh :: GT) rmH (va_Pc As (hPre D o cA q cL sa sb sc sz S z)) (hQ D o cA q cL sz S1 z1 r1) 1 6 (hA o q sz)
def hW (D : va_G) (o : Nat → Nat) (cA : ClassId) (q : Nat) (cL : ClassId) (z : Nat → Int64) (A : Nat → Prop) (s : State) (H0 : Heap) (S : SX) (H : Heap) (locs : List Loc) : Prop :=
  xW D o cA A s H0 S H locs ∧ va_P D vwCl (hw1 q cL z) H ∧ A q ∧ (∀ i, i < 7 → q ≠ o i) ∧ va_K D vwCl [(cL, .long)] s
section Helpers
variable {p : Program} {l : Launch} {e : Env} {R : Room} {s : State} {m : MethodId} {args : Array Value} {below : List Frame} {meth : Method} {c : Code} {H : Heap} {locs : List Loc} {cells slots : Nat} {Q : State → Prop}
variable {cc : ByteArray} {pc : Nat} {ls : Array Slot} {rest : List Value} {D : va_G} {A : Nat → Prop} {H0 : Heap} {o : Nat → Nat} {cA : ClassId} {S : SX}
variable {sa sb sc q : Nat} {cL : ClassId} {z : Nat → Int64}
theorem h_met {y : MethodName} {code : ByteArray} {maxL sz : Nat} {hh : List (Nat × Nat × Nat × Nat)} {As : List Value} {Qc : Array Value → State → Outcome → State → Prop} (hy : plainName y.cls = true) (ho : y.cls = RL) (hlen : (lg_sl As).length ≤ maxL)
    (body : ∀ (p : Program) (e : Env) (s : State) (m : MethodId) (below : List Frame) (meth : Method) (c : Code) (ls : Array Slot), s.heap.size = sz → p.tables.exec = Jvm.exec → c.code = code → c.maxLocals = maxL → meth.sig.returnType = some .int → meth.locks = false → s.vm.findClass RL = some m.cls → (∀ w ∈ GT, w.before As.toArray s = true) → c.exceptionTable.toList = tableOf hh → lv_has ls maxL (lv_args 0 As) → hW D o cA q cL z (hA o q s.heap.size) s s.heap S s.heap [] → EN (hA o q s.heap.size) sa sb sc s s.heap → va_Nc "java/lang/IllegalStateException" "java/lang/IllegalArgumentException" s →
      W p l e rmH s m As.toArray below meth c s.heap [] 0 0 (MQ below Qc As.toArray s 1 6 (hA o q sz)) (F0 m 0 ls [])) : Met l y (.codeWith y code maxL (some .int) hh :: GT) rmH (va_Pc As (hPre D o cA q cL sa sb sc sz S z)) Qc 1 6 (hA o q sz) := by
  refine va_MetW (cc := code) (maxL := maxL) (ret := some .int) (hh := hh) hy rfl ?_
  intro p e s m args below meth c s₁ B hml hv
  obtain ⟨rfl, ⟨hsz, hP, hK, hD0⟩, hP2, hK2, hne, hE, hN⟩ := hv
  subst hsz
  have hts0 := atoms_spec (ws := Cond.codeWith y code maxL (some .int) hh :: GT) B.pre
  have htab := vx_table (x := y) B (hts0 _ List.mem_cons_self)
  have hown : s.vm.findClass y.cls = some m.cls := findClass_of_methodNamed B.named
  rw [ho] at hown
  rw [lg_entry_eq]
  exact body p e s m below meth c _ rfl B.exec B.bytes hml B.returns B.notSynchronized hown (fun w h => hts0 w (List.mem_cons_of_mem _ h)) htab (lv_entry As hlen) ⟨⟨hP, ⟨hD0.1, fun k q hk => Or.inl (Or.inl ⟨k, xw_at hk⟩)⟩, va_S.rf, hK, fun q h => Or.inl (Or.inr h)⟩, hP2, Or.inr rfl, hne, hK2⟩ hE hN
theorem h_ret {r r1 : Int32} {S1 : SX} {z1 : Nat → Int64} (hx : p.tables.exec = Jvm.exec) (hb : c.code = cc) (hr : meth.sig.returnType = some .int) (hlocks : meth.locks = false) (hw : hW D o cA q cL z (hA o q s.heap.size) s s.heap S H locs) (h : r = r1 ∧ S = S1 ∧ z = z1) (hdg : decode cc pc = .ok (.ireturn, 1)) :
    W p l e R s m args below meth c H locs cells slots (MQ below (hQ D o cA q cL s.heap.size S1 z1 r1) args s cells slots (hA o q s.heap.size)) (F0 m pc ls [.int r]) := by
  obtain ⟨⟨hP, hD, hS, hK, -⟩, hP2, -⟩ := hw
  obtain ⟨h, rfl, rfl⟩ := h
  exact W.iret (v := r) hx hb hr (fun t ht hW => ⟨⟨r, (), rfl, h, by rw [ht]; exact hP, by rw [ht]; exact hP2⟩, hS.F ht⟩) hS.2.2 hdg hlocks
theorem h_keep {H1 : Heap} (hw : hW D o cA q cL z A s H0 S H locs) (hk : ∀ a : Nat, a < H.size → ¬ xA o H.size a → H1[a]? = H[a]?) : va_P D vwCl (hw1 q cL z) H1 := by
  refine hw.2.1.kept (fun k x hx => ?_)
  have hlt := (hw.2.1 k x hx).lt
  have hk0 : k < 1 := (List.getElem?_eq_some_iff.mp hx).1
  obtain rfl : k = 0 := by omega
  have h2 := Option.some.inj hx
  refine hk x.1 hlt (fun h => ?_)
  rw [← h2] at h hlt
  rcases h with ⟨i, hi, e⟩ | h
  · exact hw.2.2.2.1 i hi e
  · exact absurd hlt (Nat.not_lt.mpr h)
theorem h_last {x : Int64} (hx : p.tables.exec = Jvm.exec) (hb : c.code = cc) (hw : hW D o cA q cL z A s H0 S H locs) (hdg : decode cc pc = .ok (.lastore, 1))
    (kk : ∀ (H1 : Heap) (locs1 : List Loc), hW D o cA q cL (vp_updL z 0 x) A s H0 S H1 locs1 → W p l e R s m args below meth c H1 locs1 cells slots Q (F0 m (pc + 1) ls rest)) : W p l e R s m args below meth c H locs cells slots Q (F0 m pc ls (.long x :: .int 0 :: .ref q :: rest)) := by
  obtain ⟨⟨hP, hD, hS, hK, hA9⟩, hP2, hAq, hne, hK2⟩ := hw
  have hD2 : va_D A (hw1 q cL z) := ⟨fun i j p9 q9 hp hq _ => by
    have h1 : i < 1 := (List.getElem?_eq_some_iff.mp hp).1
    have h2 : j < 1 := (List.getElem?_eq_some_iff.mp hq).1
    omega, fun k p9 hk => by
    have h1 : k < 1 := (List.getElem?_eq_some_iff.mp hk).1
    obtain rfl : k = 0 := by omega
    have h2 := Option.some.inj hk
    rw [← h2]
    exact hAq⟩
  have hDD : va_D A (xw o cA S ++ hw1 q cL z) := hD.app hD2 (fun i j p9 q9 hp hq e => by
    have h1 : j < 1 := (List.getElem?_eq_some_iff.mp hq).1
    obtain rfl : j = 0 := by omega
    have h2 := Option.some.inj hq
    rw [← h2, (xw_at hp).2] at e
    exact hne i (xw_at hp).1 e.symm)
  have hKK : va_K D vwCl [(cA, .int), (cL, .long)] s := hK.app hK2
  refine va_last hx hb hKK (hP.app hP2) hDD hS 7 1 rfl rfl (vp_in_nI (n := 0) (N := 1) (by decide) (by decide)) hdg (fun H1 locs1 hP hD hS => ?_)
  exact kk H1 locs1 ⟨⟨hP.sub [0, 1, 2, 3, 4, 5, 6] rfl, hD.sub [0, 1, 2, 3, 4, 5, 6] (by decide) rfl, hS, hK, hA9⟩, hP.sub [7] rfl, hAq, hne, hK2⟩
theorem h_ok {y : MethodName} {bytes : ByteArray} {maxL d n index nL : Nat} {ret : Option FieldType} {As st0 : List Value} {r1 : Int32} {S1 : SX} (F : CallFix p m c cc nL s args GT RL) (hM : xMi l D o cA y bytes maxL ret d (.ref (o 0) :: As) S S1 r1)
    (cw : CallW R s args RL RX0 index y bytes maxL ret (.code y bytes maxL ret :: GT) (rmD d) 0 0 n) (hw : hW D o cA q cL z A s H0 S H locs) (hn : As.length = n) (hsize : ls.size = nL) (hst : st0 = As.reverse ++ .ref (o 0) :: rest) (hr : (rest.map fun v => v.category).sum ≤ 8) (hdg : decode cc pc = .ok (.invokevirtual index, 3)) (hf : cells ≤ R.cells ∧ slots ≤ R.slots)
    (kk : ∀ (H1 : Heap) (locs1 : List Loc), hW D o cA q cL z A s H0 S1 H1 locs1 → W p l e R s m args below meth c H1 locs1 cells slots Q (F0 m (pc + 3) ls (.int r1 :: rest))) : W p l e R s m args below meth c H locs cells slots Q (F0 m pc ls st0) :=
  x_ciF F hM cw hw.1 hn hsize hst hr hdg hf (fun H1 locs1 h _ hk => kk H1 locs1 ⟨h, h_keep hw hk, hw.2.2⟩)
theorem h_bad {y : MethodName} {bytes : ByteArray} {maxL n index nL : Nat} {ret : Option FieldType} {As st0 : List Value} {E0 name : String} (F : CallFix p m c cc nL s args GT RL) (hM : xT l D o cA sa sb sc y bytes maxL ret (.ref (o 0) :: As) S E0)
    (cw : CallW R s args RL RX0 index y bytes maxL ret (.code y bytes maxL ret :: GT) rmT 1 6 n) (hw : hW D o cA q cL z (hA o q s.heap.size) s s.heap S H locs) (hE : EN (hA o q s.heap.size) sa sb sc s s.heap) (hn : As.length = n) (hsize : ls.size = nL) (hst : st0 = As.reverse ++ .ref (o 0) :: rest) (hr : (rest.map fun v => v.category).sum ≤ 8) (hdg : decode cc pc = .ok (.invokevirtual index, 3)) (hf : cells + 1 ≤ R.cells ∧ slots + 6 ≤ R.slots)
    (pre : List ExceptionTableEntry) (x : ExceptionTableEntry) (suf : List ExceptionTableEntry) (hsplit : c.exceptionTable.toList = pre ++ x :: suf)
    (hpass : ∀ z ∈ pre, covers z pc = false ∨ (z.catchType ≠ 0 ∧ ∃ nm : String, (Cond.classLink RL z.catchType nm).before args s = true ∧ va_Nc E0 nm s)) (hcov : covers x pc = true) (h0 : x.catchType ≠ 0)
    (hlink : (Cond.classLink RL x.catchType name).before args s = true) (hcast : (Cond.castable E0 name).before args s = true)
    (kk : ∀ (q9 : Nat) (H1 : Heap) (locs1 : List Loc), hW D o cA q cL z (hA o q s.heap.size) s s.heap S H1 locs1 → W p l e R s m args below meth c H1 locs1 (cells + 1) (slots + 6) Q (F0 m x.handlerPc ls [.ref q9])) : W p l e R s m args below meth c H locs cells slots Q (F0 m pc ls st0) := by
  subst hst
  obtain ⟨hP, hD, hS, hK, hA9⟩ := id hw.1
  have hown := F.2.2.2.1
  refine vx_calli (vx_runV (As := As) (rest := rest) F (hM H.size) cw ⟨fun a U g mk h => ?_, ?_, fun U hU hW9 => ⟨rfl, ⟨by rw [hU], by rw [hU]; exact hP, va_K.moved hW9.alike hK, hD.weaken (fun _ _ _ _ => trivial)⟩, ?_⟩⟩ rfl hn hsize rfl (lv_room hr) hdg hf) hS (fun a _ h => x_free hw.1 a h) (x_free hw.1) (fun a _ h => x_free hw.1 a h) (fun E ce q9 u t H1 locs1 ht hvm hpx hBX hz hk hS1 hce hcv hcl => ?_) (fun r u t H1 locs1 ht hvm hp hB hz1 hk1 hS1 => hp.elim)
  · obtain ⟨q0, ⟨q1, qP, qK, qD⟩, qE⟩ := h
    exact ⟨q0, ⟨q1, qP, va_K.moved (u := U) (U := U.calling g mk a) (Vm.Alike.refl U.vm) qK, qD⟩, qE.same (U := U.calling g mk a) rfl⟩
  · exact va_recv hK hP (show vwCl[0]? = some (RX0, TX0, 10) from rfl) (show (xw o cA S)[0]? = _ from rfl)
  · rw [hU]
    exact ((hE.kept hS.2.1).narrow (x_free hw.1)).warm hW9
  · obtain ⟨rfl, hP1, hK1, hD1⟩ := hBX
    rw [ht] at hP1
    exact vx_catch hown pre x suf hsplit hpass hcov h0 hlink hcast hce hcv hcl (kk q9 H1 locs1 ⟨⟨hP1, hD1.weaken (fun k a hk h => x_free hw.1 _ h), hS1, hK, hA9⟩, h_keep hw hk, hw.2.2⟩)
end Helpers

theorem cwl_read {R : Room} {s : State} {args : Array Value} (hts : ∀ w ∈ GT, w.before args s = true) (hR : 6 + 1 ≤ R.frames ∧ 8 + (3 + 11) + 40 * 6 ≤ R.locals) : CallW R s args RL RX0 7 yX0_read cX0_read 3 (some .int) ((.code yX0_read cX0_read 3 (some .int) : Cond) :: GT) (rmD 6) 0 0 2 :=
  cwV 2 hts (show GoodIn GT (wsV RL 7 RX0 yX0_read ((.code yX0_read cX0_read 3 (some .int) : Cond) :: GT)) from lw_gin (lw_gin (lw_gin (lw_gin (lw_gin lw_self gw_118) gw_1) gw_117) gw_116) gw_115) rfl rfl rfl (by decide +kernel) hR
theorem cwl_read_t {R : Room} {s : State} {args : Array Value} (hts : ∀ w ∈ GT, w.before args s = true) (hR : 6 + 1 ≤ R.frames ∧ 8 + (3 + 11) + 100 ≤ R.locals) : CallW R s args RL RX0 7 yX0_read cX0_read 3 (some .int) ((.code yX0_read cX0_read 3 (some .int) : Cond) :: GT) rmT 1 6 2 :=
  cwV 2 hts (show GoodIn GT (wsV RL 7 RX0 yX0_read ((.code yX0_read cX0_read 3 (some .int) : Cond) :: GT)) from lw_gin (lw_gin (lw_gin (lw_gin (lw_gin lw_self gw_118) gw_1) gw_117) gw_116) gw_115) rfl rfl rfl (by decide +kernel) hR
theorem cwl_write {R : Room} {s : State} {args : Array Value} (hts : ∀ w ∈ GT, w.before args s = true) (hR : 6 + 1 ≤ R.frames ∧ 8 + (5 + 11) + 40 * 6 ≤ R.locals) : CallW R s args RL RX0 15 yX0_write cX0_write 5 (some .int) ((.code yX0_write cX0_write 5 (some .int) : Cond) :: GT) (rmD 6) 0 0 3 :=
  cwV 3 hts (show GoodIn GT (wsV RL 15 RX0 yX0_write ((.code yX0_write cX0_write 5 (some .int) : Cond) :: GT)) from lw_gin (lw_gin (lw_gin (lw_gin (lw_gin lw_self gw_149) gw_1) gw_148) gw_147) gw_146) rfl rfl rfl (by decide +kernel) hR
theorem cwl_write_t {R : Room} {s : State} {args : Array Value} (hts : ∀ w ∈ GT, w.before args s = true) (hR : 6 + 1 ≤ R.frames ∧ 8 + (5 + 11) + 100 ≤ R.locals) : CallW R s args RL RX0 15 yX0_write cX0_write 5 (some .int) ((.code yX0_write cX0_write 5 (some .int) : Cond) :: GT) rmT 1 6 3 :=
  cwV 3 hts (show GoodIn GT (wsV RL 15 RX0 yX0_write ((.code yX0_write cX0_write 5 (some .int) : Cond) :: GT)) from lw_gin (lw_gin (lw_gin (lw_gin (lw_gin lw_self gw_149) gw_1) gw_148) gw_147) gw_146) rfl rfl rfl (by decide +kernel) hR
theorem cwl_evict {R : Room} {s : State} {args : Array Value} (hts : ∀ w ∈ GT, w.before args s = true) (hR : 3 + 1 ≤ R.frames ∧ 8 + (3 + 11) + 40 * 3 ≤ R.locals) : CallW R s args RL RX0 19 yX0_evict cX0_evict 3 (some .boolean) ((.code yX0_evict cX0_evict 3 (some .boolean) : Cond) :: GT) (rmD 3) 0 0 2 :=
  cwV 2 hts (show GoodIn GT (wsV RL 19 RX0 yX0_evict ((.code yX0_evict cX0_evict 3 (some .boolean) : Cond) :: GT)) from lw_gin (lw_gin (lw_gin (lw_gin (lw_gin lw_self gw_172) gw_1) gw_171) gw_170) gw_169) rfl rfl rfl (by decide +kernel) hR
theorem cwl_evict_t {R : Room} {s : State} {args : Array Value} (hts : ∀ w ∈ GT, w.before args s = true) (hR : 6 + 1 ≤ R.frames ∧ 8 + (3 + 11) + 100 ≤ R.locals) : CallW R s args RL RX0 19 yX0_evict cX0_evict 3 (some .boolean) ((.code yX0_evict cX0_evict 3 (some .boolean) : Cond) :: GT) rmT 1 6 2 :=
  cwV 2 hts (show GoodIn GT (wsV RL 19 RX0 yX0_evict ((.code yX0_evict cX0_evict 3 (some .boolean) : Cond) :: GT)) from lw_gin (lw_gin (lw_gin (lw_gin (lw_gin lw_self gw_172) gw_1) gw_171) gw_170) gw_169) rfl rfl rfl (by decide +kernel) hR
set_option maxRecDepth 100000 in
set_option maxHeartbeats 4000000 in
theorem ch_read (l : Launch) (hl9 : l.stackTraces = false) (D : va_G) (o : Nat → Nat) (cA : ClassId) (q : Nat) (cL : ClassId) (sa sb sc : Nat) (S : SX) (z : Nat → Int64) (u a : Nat) (hu : u < 4) (ha : a < 32) (hok : okB S) : hM l D o cA q cL sa sb sc yL_read cL_read 5 [(0, 10, 13, 13)] [.ref (o 0), .int (nI u), .int (nI a), .ref q] S z (xBr S u (a / 2) 0) (vp_updL z 0 ((xBr S u (a / 2) 0).1 2 (2 * (2 * u + a / 2 % 2) + a % 2)).toInt64) 0 := by
  intro sz
  refine h_met (by decide) rfl (Nat.le_of_ble_eq_true rfl) ?_
  intro P0 e s m below meth c ls hsz hx hb hml hr hlocks hown hts htab hl hw hE hN
  subst hsz
  have hl : lv_has ls 5 [(0, .ref (o 0)), (1, .int (nI u)), (2, .int (nI a)), (3, .ref q)] := hl
  refine lv_aload_n hx hb dL_read_0 rfl (lv_at hl 3 rfl) ?_
  refine lv_iconst (v := 0) hx hb dL_read_1 (by decide) ?_
  refine lv_aload_n hx hb dL_read_2 rfl (lv_at hl 0 rfl) ?_
  refine lv_iload_n hx hb dL_read_3 rfl (lv_at hl 1 rfl) ?_
  refine lv_iload_n hx hb dL_read_4 rfl (lv_at hl 2 rfl) ?_
  refine h_ok (rest := [.int 0, .ref q]) ⟨hx, hb, hml, hown, hts⟩ (cx_read l D o cA S u a hu ha hok) (cwl_read hts ⟨by decide, by decide⟩) hw rfl hl.1 rfl (Nat.le_of_ble_eq_true rfl) dL_read_5 ⟨Nat.zero_le _, Nat.zero_le _⟩ (fun H locs hw => ?_)
  refine lv_i2l (v := ((xBr S u (a / 2) 0).1 2 (2 * (2 * u + a / 2 % 2) + a % 2)).toInt64) hx hb dL_read_8 rfl ?_
  refine h_last hx hb hw dL_read_9 (fun H locs hw => ?_)
  refine lv_goto (tgt := 17) hx hb dL_read_10 (by decide) ?_
  refine lv_iconst (v := 0) hx hb dL_read_17 (by decide) ?_
  refine W.widen (k := 1) (n := 6) (by decide) (by decide) ?_
  exact h_ret hx hb hr hlocks hw ⟨rfl, rfl, rfl⟩ dL_read_18
set_option maxRecDepth 100000 in
set_option maxHeartbeats 4000000 in
theorem ch_write (l : Launch) (hl9 : l.stackTraces = false) (D : va_G) (o : Nat → Nat) (cA : ClassId) (q : Nat) (cL : ClassId) (sa sb sc : Nat) (S : SX) (z : Nat → Int64) (u a : Nat) (w : Int32) (hu : u < 4) (ha : a < 32) (hok : okB S) : hM l D o cA q cL sa sb sc yL_write cL_write 6 [(0, 12, 15, 13)] [.ref (o 0), .int (nI u), .int (nI a), .int w, .ref q] S z (xWr S u a w) (vp_updL z 0 ((xWr S u a w).2 1 - S.2 1).toInt64) 0 := by
  intro sz
  refine h_met (by decide) rfl (Nat.le_of_ble_eq_true rfl) ?_
  intro P0 e s m below meth c ls hsz hx hb hml hr hlocks hown hts htab hl hw hE hN
  subst hsz
  have hl : lv_has ls 6 [(0, .ref (o 0)), (1, .int (nI u)), (2, .int (nI a)), (3, .int w), (4, .ref q)] := hl
  refine lv_aload hx hb dL_write_0 (lv_at hl 4 rfl) ?_
  refine lv_iconst (v := 0) hx hb dL_write_2 (by decide) ?_
  refine lv_aload_n hx hb dL_write_3 rfl (lv_at hl 0 rfl) ?_
  refine lv_iload_n hx hb dL_write_4 rfl (lv_at hl 1 rfl) ?_
  refine lv_iload_n hx hb dL_write_5 rfl (lv_at hl 2 rfl) ?_
  refine lv_iload_n hx hb dL_write_6 rfl (lv_at hl 3 rfl) ?_
  refine h_ok (rest := [.int 0, .ref q]) ⟨hx, hb, hml, hown, hts⟩ (cx_write l D o cA S u a w hu ha hok) (cwl_write hts ⟨by decide, by decide⟩) hw rfl hl.1 rfl (Nat.le_of_ble_eq_true rfl) dL_write_7 ⟨Nat.zero_le _, Nat.zero_le _⟩ (fun H locs hw => ?_)
  refine lv_i2l (v := ((xWr S u a w).2 1 - S.2 1).toInt64) hx hb dL_write_10 rfl ?_
  refine h_last hx hb hw dL_write_11 (fun H locs hw => ?_)
  refine lv_goto (tgt := 19) hx hb dL_write_12 (by decide) ?_
  refine lv_iconst (v := 0) hx hb dL_write_19 (by decide) ?_
  refine W.widen (k := 1) (n := 6) (by decide) (by decide) ?_
  exact h_ret hx hb hr hlocks hw ⟨rfl, rfl, rfl⟩ dL_write_20
set_option maxRecDepth 100000 in
set_option maxHeartbeats 4000000 in
theorem ch_evict (l : Launch) (hl9 : l.stackTraces = false) (D : va_G) (o : Nat → Nat) (cA : ClassId) (q : Nat) (cL : ClassId) (sa sb sc : Nat) (S : SX) (z : Nat → Int64) (u b : Nat) (hu : u < 4) (hbb : b < 16) (hok : okB S) (hh : xHo S u b = true) : hM l D o cA q cL sa sb sc yL_evict cL_evict 5 [(0, 17, 20, 13), (0, 17, 24, 23)] [.ref (o 0), .int (nI u), .int (nI b), .ref q] S z (xEm S (2 * u + b % 2)) (vp_updL z 0 (if xDi (S.1 0 (2 * u + b % 2)) = true then 1 else 0)) 0 := by
  intro sz
  refine h_met (by decide) rfl (Nat.le_of_ble_eq_true rfl) ?_
  intro P0 e s m below meth c ls hsz hx hb hml hr hlocks hown hts htab hl hw hE hN
  subst hsz
  have hl : lv_has ls 5 [(0, .ref (o 0)), (1, .int (nI u)), (2, .int (nI b)), (3, .ref q)] := hl
  refine lv_aload_n hx hb dL_evict_0 rfl (lv_at hl 3 rfl) ?_
  refine lv_iconst (v := 0) hx hb dL_evict_1 (by decide) ?_
  refine lv_aload_n hx hb dL_evict_2 rfl (lv_at hl 0 rfl) ?_
  refine lv_iload_n hx hb dL_evict_3 rfl (lv_at hl 1 rfl) ?_
  refine lv_iload_n hx hb dL_evict_4 rfl (lv_at hl 2 rfl) ?_
  refine h_ok (rest := [.int 0, .ref q]) ⟨hx, hb, hml, hown, hts⟩ (cx_evict l D o cA S u b hu hbb hok hh) (cwl_evict hts ⟨by decide, by decide⟩) hw rfl hl.1 rfl (Nat.le_of_ble_eq_true rfl) dL_evict_5 ⟨Nat.zero_le _, Nat.zero_le _⟩ (fun H locs hw => ?_)
  refine lv_if_eq (tgt := 15) hx hb dL_evict_8 (by decide) (fun g1 => ?_) (fun g1 => ?_)
  · have g1 := bI_z.mp g1
    refine lv_lconst (v := 0) hx hb dL_evict_15 (by decide) ?_
    refine h_last hx hb hw dL_evict_16 (fun H locs hw => ?_)
    refine lv_goto (tgt := 28) hx hb dL_evict_17 (by decide) ?_
    refine lv_iconst (v := 0) hx hb dL_evict_28 (by decide) ?_
    refine W.widen (k := 1) (n := 6) (by decide) (by decide) ?_
    exact h_ret hx hb hr hlocks hw ⟨rfl, rfl, by rw [g1]; rfl⟩ dL_evict_29
  · have g1 := bI_n.mp g1
    refine lv_lconst (v := 1) hx hb dL_evict_11 (by decide) ?_
    refine lv_goto (tgt := 16) hx hb dL_evict_12 (by decide) ?_
    refine h_last hx hb hw dL_evict_16 (fun H locs hw => ?_)
    refine lv_goto (tgt := 28) hx hb dL_evict_17 (by decide) ?_
    refine lv_iconst (v := 0) hx hb dL_evict_28 (by decide) ?_
    refine W.widen (k := 1) (n := 6) (by decide) (by decide) ?_
    exact h_ret hx hb hr hlocks hw ⟨rfl, rfl, by rw [g1]; rfl⟩ dL_evict_29
set_option maxRecDepth 100000 in
set_option maxHeartbeats 4000000 in
theorem ch_read_bad (l : Launch) (hl9 : l.stackTraces = false) (D : va_G) (o : Nat → Nat) (cA : ClassId) (q : Nat) (cL : ClassId) (sa sb sc : Nat) (S : SX) (z : Nat → Int64) (x y : Int32) (hbad : (inR x 4 && inR y 32) = false) : hM l D o cA q cL sa sb sc yL_read cL_read 5 [(0, 10, 13, 13)] [.ref (o 0), .int x, .int y, .ref q] S z (S) (z) 1 := by
  intro sz
  refine h_met (by decide) rfl (Nat.le_of_ble_eq_true rfl) ?_
  intro P0 e s m below meth c ls hsz hx hb hml hr hlocks hown hts htab hl hw hE hN
  subst hsz
  have hl : lv_has ls 5 [(0, .ref (o 0)), (1, .int x), (2, .int y), (3, .ref q)] := hl
  refine lv_aload_n hx hb dL_read_0 rfl (lv_at hl 3 rfl) ?_
  refine lv_iconst (v := 0) hx hb dL_read_1 (by decide) ?_
  refine lv_aload_n hx hb dL_read_2 rfl (lv_at hl 0 rfl) ?_
  refine lv_iload_n hx hb dL_read_3 rfl (lv_at hl 1 rfl) ?_
  refine lv_iload_n hx hb dL_read_4 rfl (lv_at hl 2 rfl) ?_
  refine h_bad (rest := [.int 0, .ref q]) (name := "java/lang/IllegalArgumentException") ⟨hx, hb, hml, hown, hts⟩ (cx_read_bad l hl9 D o cA sa sb sc S x y hbad) (cwl_read_t hts ⟨by decide, by decide⟩) hw hE rfl hl.1 rfl (Nat.le_of_ble_eq_true rfl) dL_read_5 ⟨by decide, by decide⟩ [] ⟨0, 10, 13, 13⟩ [] htab (fun z9 h9 => absurd h9 List.not_mem_nil) (by decide) (by decide) (hts (.classLink RL 13 "java/lang/IllegalArgumentException") gw_114) (va_Nw.use rfl hE.2.2.2.2.2.1) (fun q9 H locs hw => ?_)
  refine lv_astore (lv' := [(4, .ref q9), (0, .ref (o 0)), (1, .int x), (2, .int y), (3, .ref q)]) hx hb dL_read_13 hl (by decide) rfl (fun ls hl => ?_)
  refine lv_iconst (v := 1) hx hb dL_read_15 (by decide) ?_
  exact h_ret hx hb hr hlocks hw ⟨rfl, rfl, rfl⟩ dL_read_16
set_option maxRecDepth 100000 in
set_option maxHeartbeats 4000000 in
theorem ch_write_bad (l : Launch) (hl9 : l.stackTraces = false) (D : va_G) (o : Nat → Nat) (cA : ClassId) (q : Nat) (cL : ClassId) (sa sb sc : Nat) (S : SX) (z : Nat → Int64) (x y w : Int32) (hbad : (inR x 4 && inR y 32) = false) : hM l D o cA q cL sa sb sc yL_write cL_write 6 [(0, 12, 15, 13)] [.ref (o 0), .int x, .int y, .int w, .ref q] S z (S) (z) 1 := by
  intro sz
  refine h_met (by decide) rfl (Nat.le_of_ble_eq_true rfl) ?_
  intro P0 e s m below meth c ls hsz hx hb hml hr hlocks hown hts htab hl hw hE hN
  subst hsz
  have hl : lv_has ls 6 [(0, .ref (o 0)), (1, .int x), (2, .int y), (3, .int w), (4, .ref q)] := hl
  refine lv_aload hx hb dL_write_0 (lv_at hl 4 rfl) ?_
  refine lv_iconst (v := 0) hx hb dL_write_2 (by decide) ?_
  refine lv_aload_n hx hb dL_write_3 rfl (lv_at hl 0 rfl) ?_
  refine lv_iload_n hx hb dL_write_4 rfl (lv_at hl 1 rfl) ?_
  refine lv_iload_n hx hb dL_write_5 rfl (lv_at hl 2 rfl) ?_
  refine lv_iload_n hx hb dL_write_6 rfl (lv_at hl 3 rfl) ?_
  refine h_bad (rest := [.int 0, .ref q]) (name := "java/lang/IllegalArgumentException") ⟨hx, hb, hml, hown, hts⟩ (cx_write_bad l hl9 D o cA sa sb sc S x y w hbad) (cwl_write_t hts ⟨by decide, by decide⟩) hw hE rfl hl.1 rfl (Nat.le_of_ble_eq_true rfl) dL_write_7 ⟨by decide, by decide⟩ [] ⟨0, 12, 15, 13⟩ [] htab (fun z9 h9 => absurd h9 List.not_mem_nil) (by decide) (by decide) (hts (.classLink RL 13 "java/lang/IllegalArgumentException") gw_114) (va_Nw.use rfl hE.2.2.2.2.2.1) (fun q9 H locs hw => ?_)
  refine lv_astore (lv' := [(5, .ref q9), (0, .ref (o 0)), (1, .int x), (2, .int y), (3, .int w), (4, .ref q)]) hx hb dL_write_15 hl (by decide) rfl (fun ls hl => ?_)
  refine lv_iconst (v := 1) hx hb dL_write_17 (by decide) ?_
  exact h_ret hx hb hr hlocks hw ⟨rfl, rfl, rfl⟩ dL_write_18
set_option maxRecDepth 100000 in
set_option maxHeartbeats 4000000 in
theorem ch_evict_bad (l : Launch) (hl9 : l.stackTraces = false) (D : va_G) (o : Nat → Nat) (cA : ClassId) (q : Nat) (cL : ClassId) (sa sb sc : Nat) (S : SX) (z : Nat → Int64) (x y : Int32) (hbad : (inR x 4 && inR y 16) = false) : hM l D o cA q cL sa sb sc yL_evict cL_evict 5 [(0, 17, 20, 13), (0, 17, 24, 23)] [.ref (o 0), .int x, .int y, .ref q] S z (S) (z) 1 := by
  intro sz
  refine h_met (by decide) rfl (Nat.le_of_ble_eq_true rfl) ?_
  intro P0 e s m below meth c ls hsz hx hb hml hr hlocks hown hts htab hl hw hE hN
  subst hsz
  have hl : lv_has ls 5 [(0, .ref (o 0)), (1, .int x), (2, .int y), (3, .ref q)] := hl
  refine lv_aload_n hx hb dL_evict_0 rfl (lv_at hl 3 rfl) ?_
  refine lv_iconst (v := 0) hx hb dL_evict_1 (by decide) ?_
  refine lv_aload_n hx hb dL_evict_2 rfl (lv_at hl 0 rfl) ?_
  refine lv_iload_n hx hb dL_evict_3 rfl (lv_at hl 1 rfl) ?_
  refine lv_iload_n hx hb dL_evict_4 rfl (lv_at hl 2 rfl) ?_
  refine h_bad (rest := [.int 0, .ref q]) (name := "java/lang/IllegalArgumentException") ⟨hx, hb, hml, hown, hts⟩ (cx_evict_bad l hl9 D o cA sa sb sc S x y hbad) (cwl_evict_t hts ⟨by decide, by decide⟩) hw hE rfl hl.1 rfl (Nat.le_of_ble_eq_true rfl) dL_evict_5 ⟨by decide, by decide⟩ [] ⟨0, 17, 20, 13⟩ [⟨0, 17, 24, 23⟩] htab (fun z9 h9 => absurd h9 List.not_mem_nil) (by decide) (by decide) (hts (.classLink RL 13 "java/lang/IllegalArgumentException") gw_114) (va_Nw.use rfl hE.2.2.2.2.2.1) (fun q9 H locs hw => ?_)
  refine lv_astore (lv' := [(4, .ref q9), (0, .ref (o 0)), (1, .int x), (2, .int y), (3, .ref q)]) hx hb dL_evict_20 hl (by decide) rfl (fun ls hl => ?_)
  refine lv_iconst (v := 1) hx hb dL_evict_22 (by decide) ?_
  exact h_ret hx hb hr hlocks hw ⟨rfl, rfl, rfl⟩ dL_evict_23
set_option maxRecDepth 100000 in
set_option maxHeartbeats 4000000 in
theorem ch_evict_no (l : Launch) (hl9 : l.stackTraces = false) (D : va_G) (o : Nat → Nat) (cA : ClassId) (q : Nat) (cL : ClassId) (sa sb sc : Nat) (S : SX) (z : Nat → Int64) (u b : Nat) (hu : u < 4) (hbb : b < 16) (hh : xHo S u b = false) : hM l D o cA q cL sa sb sc yL_evict cL_evict 5 [(0, 17, 20, 13), (0, 17, 24, 23)] [.ref (o 0), .int (nI u), .int (nI b), .ref q] S z (S) (z) 2 := by
  intro sz
  refine h_met (by decide) rfl (Nat.le_of_ble_eq_true rfl) ?_
  intro P0 e s m below meth c ls hsz hx hb hml hr hlocks hown hts htab hl hw hE hN
  subst hsz
  have hl : lv_has ls 5 [(0, .ref (o 0)), (1, .int (nI u)), (2, .int (nI b)), (3, .ref q)] := hl
  refine lv_aload_n hx hb dL_evict_0 rfl (lv_at hl 3 rfl) ?_
  refine lv_iconst (v := 0) hx hb dL_evict_1 (by decide) ?_
  refine lv_aload_n hx hb dL_evict_2 rfl (lv_at hl 0 rfl) ?_
  refine lv_iload_n hx hb dL_evict_3 rfl (lv_at hl 1 rfl) ?_
  refine lv_iload_n hx hb dL_evict_4 rfl (lv_at hl 2 rfl) ?_
  refine h_bad (rest := [.int 0, .ref q]) (name := "java/lang/IllegalStateException") ⟨hx, hb, hml, hown, hts⟩ (cx_evict_no l hl9 D o cA sa sb sc S u b hu hbb hh) (cwl_evict_t hts ⟨by decide, by decide⟩) hw hE rfl hl.1 rfl (Nat.le_of_ble_eq_true rfl) dL_evict_5 ⟨by decide, by decide⟩ [⟨0, 17, 20, 13⟩] ⟨0, 17, 24, 23⟩ [] htab (fun z9 h9 => Or.inr ⟨by rw [List.mem_singleton.mp h9]; decide, "java/lang/IllegalArgumentException", by rw [List.mem_singleton.mp h9]; exact hts (.classLink RL 13 "java/lang/IllegalArgumentException") gw_114, hN⟩) (by decide) (by decide) (hts (.classLink RL 23 "java/lang/IllegalStateException") gw_168) (va_Nw.use rfl hE.2.2.2.2.2.2.1) (fun q9 H locs hw => ?_)
  refine lv_astore (lv' := [(4, .ref q9), (0, .ref (o 0)), (1, .int (nI u)), (2, .int (nI b)), (3, .ref q)]) hx hb dL_evict_24 hl (by decide) rfl (fun ls hl => ?_)
  refine lv_iconst (v := 2) hx hb dL_evict_26 (by decide) ?_
  exact h_ret hx hb hr hlocks hw ⟨rfl, rfl, rfl⟩ dL_evict_27
