def rmT : Room := { frames := 6, cells := 1, slots := 6, locals := 100 }
def EN (A : Nat → Prop) (sa sb sc : Nat) (U : State) (H : Heap) : Prop :=
  vx_Zq Bundle.tN "UNASSIGNED_STACK" Bundle.steD A U H ∧ vx_Zq Bundle.tN "SUPPRESSED_SENTINEL" Bundle.listD A U H ∧
  vk_R RX0 45 "no such processor or address" sa U ∧ vk_R RX0 79 "no such processor or block" sb U ∧ vk_R RX0 87 "the cache does not hold the block" sc U ∧
  va_Nw (.castable "java/lang/IllegalArgumentException" "java/lang/IllegalArgumentException") U ∧ va_Nw (.castable "java/lang/IllegalStateException" "java/lang/IllegalStateException") U ∧ va_Nw (.declares (⟨"java/lang/RuntimeException", "<init>", "(Ljava/lang/String;)V"⟩ : MethodName)) U ∧ va_Nw (.declares (⟨"java/lang/Exception", "<init>", "(Ljava/lang/String;)V"⟩ : MethodName)) U ∧ va_Nw (.declares (⟨"java/lang/Throwable", "<init>", "(Ljava/lang/String;)V"⟩ : MethodName)) U
theorem EN.warm {A : Nat → Prop} {sa sb sc : Nat} {s U : State} {H : Heap} (hW : s.WarmedH U.vm) (h : EN A sa sb sc s H) : EN A sa sb sc U H := by
  obtain ⟨h1, h2, h3, h4, h5, h6, h7, h8, h9, h10⟩ := h
  exact ⟨h1.moved hW.alike, h2.moved hW.alike, h3.warm hW, h4.warm hW, h5.warm hW, h6.warmC hW, h7.warmC hW, h8.warmD hW, h9.warmD hW, h10.warmD hW⟩
theorem EN.same {A : Nat → Prop} {sa sb sc : Nat} {s U : State} {H : Heap} (hv : s.vm = U.vm) (h : EN A sa sb sc s H) : EN A sa sb sc U H := by
  obtain ⟨h1, h2, h3, h4, h5, h6, h7, h8, h9, h10⟩ := h
  have ha : s.vm.Alike U.vm := by rw [hv]; exact Vm.Alike.refl U.vm
  exact ⟨h1.moved ha, h2.moved ha, h3.same hv.symm, h4.same hv.symm, h5.same hv.symm, h6.same rfl hv, h7.same rfl hv, h8.same rfl hv, h9.same rfl hv, h10.same rfl hv⟩
theorem EN.kept {A : Nat → Prop} {sa sb sc : Nat} {s : State} {H H1 : Heap} (h : EN A sa sb sc s H) (hq : ∀ a : Nat, a < H.size → ¬ A a → H1[a]? = H[a]?) : EN A sa sb sc s H1 := by
  obtain ⟨h1, h2, h3⟩ := h
  exact ⟨h1.kept hq, h2.kept hq, h3⟩
theorem EN.narrow {A B : Nat → Prop} {sa sb sc : Nat} {s : State} {H : Heap} (h : EN A sa sb sc s H) (hAB : ∀ q, B q → A q) : EN B sa sb sc s H := by
  obtain ⟨h1, h2, h3⟩ := h
  exact ⟨h1.narrow hAB, h2.narrow hAB, h3⟩
theorem atI_in : ∀ w ∈ (vx_atS RX0 47 "java/lang/IllegalArgumentException" ["java/lang/RuntimeException", "java/lang/Exception"]).filter goodWord, w ∈ GT := by decide +kernel
theorem atI_ot : ∀ w ∈ Cond.classLink RX0 43 "java/lang/IllegalArgumentException" :: Cond.initialized "java/lang/IllegalArgumentException" :: vx_atS RX0 47 "java/lang/IllegalArgumentException" ["java/lang/RuntimeException", "java/lang/Exception"], vx_ot w = true := by decide +kernel
theorem atI_bad : ∀ w ∈ (vx_atS RX0 47 "java/lang/IllegalArgumentException" ["java/lang/RuntimeException", "java/lang/Exception"]).filter (fun w => !goodWord w), w ∈ [Cond.castable "java/lang/IllegalArgumentException" "java/lang/IllegalArgumentException", .declares (⟨"java/lang/RuntimeException", "<init>", "(Ljava/lang/String;)V"⟩ : MethodName), .declares (⟨"java/lang/Exception", "<init>", "(Ljava/lang/String;)V"⟩ : MethodName), .declares (⟨"java/lang/Throwable", "<init>", "(Ljava/lang/String;)V"⟩ : MethodName)] := by decide +kernel
theorem atS_in : ∀ w ∈ (vx_atS RX0 89 "java/lang/IllegalStateException" ["java/lang/RuntimeException", "java/lang/Exception"]).filter goodWord, w ∈ GT := by decide +kernel
theorem atS_ot : ∀ w ∈ Cond.classLink RX0 85 "java/lang/IllegalStateException" :: Cond.initialized "java/lang/IllegalStateException" :: vx_atS RX0 89 "java/lang/IllegalStateException" ["java/lang/RuntimeException", "java/lang/Exception"], vx_ot w = true := by decide +kernel
theorem atS_bad : ∀ w ∈ (vx_atS RX0 89 "java/lang/IllegalStateException" ["java/lang/RuntimeException", "java/lang/Exception"]).filter (fun w => !goodWord w), w ∈ [Cond.castable "java/lang/IllegalStateException" "java/lang/IllegalStateException", .declares (⟨"java/lang/RuntimeException", "<init>", "(Ljava/lang/String;)V"⟩ : MethodName), .declares (⟨"java/lang/Exception", "<init>", "(Ljava/lang/String;)V"⟩ : MethodName), .declares (⟨"java/lang/Throwable", "<init>", "(Ljava/lang/String;)V"⟩ : MethodName)] := by decide +kernel
def xXC (D : va_G) (o : Nat → Nat) (cA : ClassId) (sz : Nat) (S : SX) (E0 : String) : String → State → State → Prop := vx_X (fun (_ : Unit) => True) (fun E _ t => E = E0 ∧ xPost D o cA sz S t) (xA o sz)
def xQF (o : Nat → Nat) (sz : Nat) : Array Value → State → Outcome → State → Prop := va_Qi (fun (_ : Int32) (_ : Unit) => False) (fun _ _ => True) (xA o sz)
def xT (l : Launch) (D : va_G) (o : Nat → Nat) (cA : ClassId) (sa sb sc : Nat) (y : MethodName) (code : ByteArray) (maxL : Nat) (ret : Option FieldType) (As : List Value) (S : SX) (E0 : String) : Prop :=
  ∀ sz : Nat, vx_Met l y (.code y code maxL ret :: GT) rmT (va_Pc As (fun U => xPre D o cA sz S U ∧ EN (xA o sz) sa sb sc U U.heap)) (xQF o sz) (xXC D o cA sz S E0) 1 6 (xA o sz)
section Thr
variable {p : Program} {l : Launch} {e : Env} {R : Room} {s : State} {m : MethodId} {args : Array Value} {below : List Frame} {meth : Method} {c : Code} {H : Heap} {locs : List Loc} {cells slots : Nat} {Q : State → Prop}
variable {cc : ByteArray} {pc : Nat} {ls : Array Slot} {rest : List Value} {D : va_G} {A : Nat → Prop} {H0 : Heap} {o : Nat → Nat} {cA : ClassId} {S : SX}
variable {sa sb sc : Nat}
theorem x_metT {y : MethodName} {code : ByteArray} {maxL sz : Nat} {ret : Option FieldType} {As : List Value} {Qc : Array Value → State → Outcome → State → Prop} {XC : String → State → State → Prop} (hy : plainName y.cls = true) (ho : y.cls = RX0) (hlen : (lg_sl As).length ≤ maxL)
    (body : ∀ (p : Program) (e : Env) (s : State) (m : MethodId) (below : List Frame) (meth : Method) (c : Code) (ls : Array Slot), s.heap.size = sz → p.tables.exec = Jvm.exec → c.code = code → c.maxLocals = maxL → meth.locks = false → s.vm.findClass RX0 = some m.cls → (∀ w ∈ GT, w.before As.toArray s = true) → lv_has ls maxL (lv_args 0 As) → xW D o cA (xA o s.heap.size) s s.heap S s.heap [] → EN (xA o s.heap.size) sa sb sc s s.heap → (∀ x ∈ c.exceptionTable.toList, False) →
      W p l e rmT s m As.toArray below meth c s.heap [] 0 0 (vx_MQ below Qc XC As.toArray s 1 6 (xA o sz)) (F0 m 0 ls [])) : vx_Met l y (.code y code maxL ret :: GT) rmT (va_Pc As (fun U => xPre D o cA sz S U ∧ EN (xA o sz) sa sb sc U U.heap)) Qc XC 1 6 (xA o sz) := by
  refine vx_ofW (cc := code) (maxL := maxL) (ret := ret) hy rfl ?_
  intro p e s m args below meth c s₁ B hml hex hv
  obtain ⟨rfl, ⟨hsz, hP, hK, hD0⟩, hE⟩ := hv
  subst hsz
  have hts0 := atoms_spec (ws := Cond.code y code maxL ret :: GT) B.pre
  have hown : s.vm.findClass y.cls = some m.cls := findClass_of_methodNamed B.named
  rw [ho] at hown
  rw [lg_entry_eq]
  exact body p e s m below meth c _ rfl B.exec B.bytes hml B.notSynchronized hown (fun w h => hts0 w (List.mem_cons_of_mem _ h)) (lv_entry As hlen) ⟨hP, ⟨hD0.1, fun k q hk => Or.inl ⟨k, xw_at hk⟩⟩, va_S.rf, hK, fun q h => Or.inr h⟩ hE hex
theorem x_thrI {is sx : Nat} {text : String} {Qc : Array Value → State → Outcome → State → Prop} (hx : p.tables.exec = Jvm.exec) (hb : c.code = cc) (hl9 : l.stackTraces = false) (hts : ∀ w ∈ GT, w.before args s = true) (hown : s.vm.findClass RX0 = some m.cls) (hw : xW D o cA (xA o s.heap.size) s s.heap S H locs) (hE : EN (xA o s.heap.size) sa sb sc s s.heap) (hex : ∀ x ∈ c.exceptionTable.toList, False) (hlocks : meth.locks = false) (hsize : ls.size = c.maxLocals) (hstr : vk_R RX0 is text sx s)
    (d0 : decode cc pc = .ok (.new 43, 3)) (d3 : decode cc (pc + 3) = .ok (.dup, 1)) (d4 : decode cc (pc + 4) = .ok (.ldc is, 2)) (d6 : decode cc (pc + 6) = .ok (.invokespecial 47, 3)) (d9 : decode cc (pc + 9) = .ok (.athrow, 1)) :
    W p l e rmT s m args below meth c H locs 0 0 (vx_MQ below Qc (xXC D o cA s.heap.size S "java/lang/IllegalArgumentException") args s 1 6 (xA o s.heap.size)) (F0 m pc ls []) := by
  obtain ⟨hP, hD, hS, hK, hA⟩ := id hw
  refine vx_throwS (A := xA o s.heap.size) (rest := []) (names := ["java/lang/RuntimeException", "java/lang/Exception"]) hx hb hl9 hown (by decide +kernel) (by decide +kernel) (hts (.classLink RX0 43 "java/lang/IllegalArgumentException") gw_119) (hts (.initialized "java/lang/IllegalArgumentException") gw_7) hstr
    (vx_hat (L := vx_atS RX0 47 "java/lang/IllegalArgumentException" ["java/lang/RuntimeException", "java/lang/Exception"]) (B := [Cond.castable "java/lang/IllegalArgumentException" "java/lang/IllegalArgumentException", .declares (⟨"java/lang/RuntimeException", "<init>", "(Ljava/lang/String;)V"⟩ : MethodName), .declares (⟨"java/lang/Exception", "<init>", "(Ljava/lang/String;)V"⟩ : MethodName), .declares (⟨"java/lang/Throwable", "<init>", "(Ljava/lang/String;)V"⟩ : MethodName)]) (fun w hw => hts w (atI_in w hw)) atI_bad (vx_c (va_Nw.use rfl hE.2.2.2.2.2.1) (vx_c (va_Nw.use rfl hE.2.2.2.2.2.2.2.1) (vx_c (va_Nw.use rfl hE.2.2.2.2.2.2.2.2.1) (vx_c (va_Nw.use rfl hE.2.2.2.2.2.2.2.2.2) vx_n)))))
    atI_ot hE.1 hE.2.1 hS hsize d0 d3 d4 d6 d9 (fun x h => (hex x h).elim) (by decide) (Nat.le_of_ble_eq_true rfl) (by decide) (by decide) hlocks (fun t ha hz hk => ?_) hS.2.2 (by decide) (by decide)
  refine ⟨(), trivial, ⟨rfl, hP.kept (fun k q hq => hk q.1 (hP k q hq).lt), va_K.moved ha hK, hD⟩, Nat.le_trans hS.1 hz, fun q h1 h2 => ?_⟩
  rw [hk q (Nat.lt_of_lt_of_le h1 hS.1)]
  exact hS.2.1 q h1 h2
theorem x_thrS {is sx : Nat} {text : String} {Qc : Array Value → State → Outcome → State → Prop} (hx : p.tables.exec = Jvm.exec) (hb : c.code = cc) (hl9 : l.stackTraces = false) (hts : ∀ w ∈ GT, w.before args s = true) (hown : s.vm.findClass RX0 = some m.cls) (hw : xW D o cA (xA o s.heap.size) s s.heap S H locs) (hE : EN (xA o s.heap.size) sa sb sc s s.heap) (hex : ∀ x ∈ c.exceptionTable.toList, False) (hlocks : meth.locks = false) (hsize : ls.size = c.maxLocals) (hstr : vk_R RX0 is text sx s)
    (d0 : decode cc pc = .ok (.new 85, 3)) (d3 : decode cc (pc + 3) = .ok (.dup, 1)) (d4 : decode cc (pc + 4) = .ok (.ldc is, 2)) (d6 : decode cc (pc + 6) = .ok (.invokespecial 89, 3)) (d9 : decode cc (pc + 9) = .ok (.athrow, 1)) :
    W p l e rmT s m args below meth c H locs 0 0 (vx_MQ below Qc (xXC D o cA s.heap.size S "java/lang/IllegalStateException") args s 1 6 (xA o s.heap.size)) (F0 m pc ls []) := by
  obtain ⟨hP, hD, hS, hK, hA⟩ := id hw
  refine vx_throwS (A := xA o s.heap.size) (rest := []) (names := ["java/lang/RuntimeException", "java/lang/Exception"]) hx hb hl9 hown (by decide +kernel) (by decide +kernel) (hts (.classLink RX0 85 "java/lang/IllegalStateException") gw_173) (hts (.initialized "java/lang/IllegalStateException") gw_9) hstr
    (vx_hat (L := vx_atS RX0 89 "java/lang/IllegalStateException" ["java/lang/RuntimeException", "java/lang/Exception"]) (B := [Cond.castable "java/lang/IllegalStateException" "java/lang/IllegalStateException", .declares (⟨"java/lang/RuntimeException", "<init>", "(Ljava/lang/String;)V"⟩ : MethodName), .declares (⟨"java/lang/Exception", "<init>", "(Ljava/lang/String;)V"⟩ : MethodName), .declares (⟨"java/lang/Throwable", "<init>", "(Ljava/lang/String;)V"⟩ : MethodName)]) (fun w hw => hts w (atS_in w hw)) atS_bad (vx_c (va_Nw.use rfl hE.2.2.2.2.2.2.1) (vx_c (va_Nw.use rfl hE.2.2.2.2.2.2.2.1) (vx_c (va_Nw.use rfl hE.2.2.2.2.2.2.2.2.1) (vx_c (va_Nw.use rfl hE.2.2.2.2.2.2.2.2.2) vx_n)))))
    atS_ot hE.1 hE.2.1 hS hsize d0 d3 d4 d6 d9 (fun x h => (hex x h).elim) (by decide) (Nat.le_of_ble_eq_true rfl) (by decide) (by decide) hlocks (fun t ha hz hk => ?_) hS.2.2 (by decide) (by decide)
  refine ⟨(), trivial, ⟨rfl, hP.kept (fun k q hq => hk q.1 (hP k q hq).lt), va_K.moved ha hK, hD⟩, Nat.le_trans hS.1 hz, fun q h1 h2 => ?_⟩
  rw [hk q (Nat.lt_of_lt_of_le h1 hS.1)]
  exact hS.2.1 q h1 h2
end Thr
set_option maxRecDepth 100000 in
set_option maxHeartbeats 4000000 in
theorem cx_read_bad (l : Launch) (hl9 : l.stackTraces = false) (D : va_G) (o : Nat → Nat) (cA : ClassId) (sa sb sc : Nat) (S : SX) (x y : Int32) (hbad : (inR x 4 && inR y 32) = false) : xT l D o cA sa sb sc yX0_read cX0_read 3 (some .int) [.ref (o 0), .int x, .int y] S "java/lang/IllegalArgumentException" := by
  intro sz
  refine x_metT (by decide) rfl (Nat.le_of_ble_eq_true rfl) ?_
  intro P0 e s m below meth c ls hsz hx hb hml hlocks hown hts hl hw hE hex
  subst hsz
  have hl : lv_has ls 3 [(0, .ref (o 0)), (1, .int x), (2, .int y)] := hl
  refine lv_iload_n hx hb dX0_read_0 rfl (lv_at hl 1 rfl) ?_
  refine x_cs (rest := []) ⟨hx, hb, hml, hown, hts⟩ (cx_isProcessor l x) (cwx_isProcessor hts ⟨by decide, by decide⟩) hw rfl hl.1 rfl (Nat.le_of_ble_eq_true rfl) dX0_read_1 ⟨Nat.zero_le _, Nat.zero_le _⟩ (fun H locs hw => ?_)
  refine lv_if_eq (tgt := 14) hx hb dX0_read_4 (by decide) (fun g1 => ?_) (fun g1 => ?_)
  · have g1 := bI_z.mp g1
    exact x_thrI hx hb hl9 hts hown hw hE hex hlocks (hl.1.trans hml.symm) hE.2.2.1 dX0_read_14 dX0_read_17 dX0_read_18 dX0_read_20 dX0_read_23
  · have g1 := bI_n.mp g1
    refine lv_iload_n hx hb dX0_read_7 rfl (lv_at hl 2 rfl) ?_
    refine x_cs (rest := []) ⟨hx, hb, hml, hown, hts⟩ (cx_isAddress l y) (cwx_isAddress hts ⟨by decide, by decide⟩) hw rfl hl.1 rfl (Nat.le_of_ble_eq_true rfl) dX0_read_8 ⟨Nat.zero_le _, Nat.zero_le _⟩ (fun H locs hw => ?_)
    refine lv_if_ne (tgt := 24) hx hb dX0_read_11 (by decide) (fun h9 => absurd h9 (fun h8 => h8 (bI_z.mpr (by rw [g1, Bool.true_and] at hbad; exact hbad)))) (fun _ => ?_)
    exact x_thrI hx hb hl9 hts hown hw hE hex hlocks (hl.1.trans hml.symm) hE.2.2.1 dX0_read_14 dX0_read_17 dX0_read_18 dX0_read_20 dX0_read_23
set_option maxRecDepth 100000 in
set_option maxHeartbeats 4000000 in
theorem cx_write_bad (l : Launch) (hl9 : l.stackTraces = false) (D : va_G) (o : Nat → Nat) (cA : ClassId) (sa sb sc : Nat) (S : SX) (x y w : Int32) (hbad : (inR x 4 && inR y 32) = false) : xT l D o cA sa sb sc yX0_write cX0_write 5 (some .int) [.ref (o 0), .int x, .int y, .int w] S "java/lang/IllegalArgumentException" := by
  intro sz
  refine x_metT (by decide) rfl (Nat.le_of_ble_eq_true rfl) ?_
  intro P0 e s m below meth c ls hsz hx hb hml hlocks hown hts hl hw hE hex
  subst hsz
  have hl : lv_has ls 5 [(0, .ref (o 0)), (1, .int x), (2, .int y), (3, .int w)] := hl
  refine lv_iload_n hx hb dX0_write_0 rfl (lv_at hl 1 rfl) ?_
  refine x_cs (rest := []) ⟨hx, hb, hml, hown, hts⟩ (cx_isProcessor l x) (cwx_isProcessor hts ⟨by decide, by decide⟩) hw rfl hl.1 rfl (Nat.le_of_ble_eq_true rfl) dX0_write_1 ⟨Nat.zero_le _, Nat.zero_le _⟩ (fun H locs hw => ?_)
  refine lv_if_eq (tgt := 14) hx hb dX0_write_4 (by decide) (fun g1 => ?_) (fun g1 => ?_)
  · have g1 := bI_z.mp g1
    exact x_thrI hx hb hl9 hts hown hw hE hex hlocks (hl.1.trans hml.symm) hE.2.2.1 dX0_write_14 dX0_write_17 dX0_write_18 dX0_write_20 dX0_write_23
  · have g1 := bI_n.mp g1
    refine lv_iload_n hx hb dX0_write_7 rfl (lv_at hl 2 rfl) ?_
    refine x_cs (rest := []) ⟨hx, hb, hml, hown, hts⟩ (cx_isAddress l y) (cwx_isAddress hts ⟨by decide, by decide⟩) hw rfl hl.1 rfl (Nat.le_of_ble_eq_true rfl) dX0_write_8 ⟨Nat.zero_le _, Nat.zero_le _⟩ (fun H locs hw => ?_)
    refine lv_if_ne (tgt := 24) hx hb dX0_write_11 (by decide) (fun h9 => absurd h9 (fun h8 => h8 (bI_z.mpr (by rw [g1, Bool.true_and] at hbad; exact hbad)))) (fun _ => ?_)
    exact x_thrI hx hb hl9 hts hown hw hE hex hlocks (hl.1.trans hml.symm) hE.2.2.1 dX0_write_14 dX0_write_17 dX0_write_18 dX0_write_20 dX0_write_23
set_option maxRecDepth 100000 in
set_option maxHeartbeats 4000000 in
theorem cx_evict_bad (l : Launch) (hl9 : l.stackTraces = false) (D : va_G) (o : Nat → Nat) (cA : ClassId) (sa sb sc : Nat) (S : SX) (x y : Int32) (hbad : (inR x 4 && inR y 16) = false) : xT l D o cA sa sb sc yX0_evict cX0_evict 3 (some .boolean) [.ref (o 0), .int x, .int y] S "java/lang/IllegalArgumentException" := by
  intro sz
  refine x_metT (by decide) rfl (Nat.le_of_ble_eq_true rfl) ?_
  intro P0 e s m below meth c ls hsz hx hb hml hlocks hown hts hl hw hE hex
  subst hsz
  have hl : lv_has ls 3 [(0, .ref (o 0)), (1, .int x), (2, .int y)] := hl
  refine lv_iload_n hx hb dX0_evict_0 rfl (lv_at hl 1 rfl) ?_
  refine x_cs (rest := []) ⟨hx, hb, hml, hown, hts⟩ (cx_isProcessor l x) (cwx_isProcessor hts ⟨by decide, by decide⟩) hw rfl hl.1 rfl (Nat.le_of_ble_eq_true rfl) dX0_evict_1 ⟨Nat.zero_le _, Nat.zero_le _⟩ (fun H locs hw => ?_)
  refine lv_if_eq (tgt := 14) hx hb dX0_evict_4 (by decide) (fun g1 => ?_) (fun g1 => ?_)
  · have g1 := bI_z.mp g1
    exact x_thrI hx hb hl9 hts hown hw hE hex hlocks (hl.1.trans hml.symm) hE.2.2.2.1 dX0_evict_14 dX0_evict_17 dX0_evict_18 dX0_evict_20 dX0_evict_23
  · have g1 := bI_n.mp g1
    refine lv_iload_n hx hb dX0_evict_7 rfl (lv_at hl 2 rfl) ?_
    refine x_cs (rest := []) ⟨hx, hb, hml, hown, hts⟩ (cx_isBlock l y) (cwx_isBlock hts ⟨by decide, by decide⟩) hw rfl hl.1 rfl (Nat.le_of_ble_eq_true rfl) dX0_evict_8 ⟨Nat.zero_le _, Nat.zero_le _⟩ (fun H locs hw => ?_)
    refine lv_if_ne (tgt := 24) hx hb dX0_evict_11 (by decide) (fun h9 => absurd h9 (fun h8 => h8 (bI_z.mpr (by rw [g1, Bool.true_and] at hbad; exact hbad)))) (fun _ => ?_)
    exact x_thrI hx hb hl9 hts hown hw hE hex hlocks (hl.1.trans hml.symm) hE.2.2.2.1 dX0_evict_14 dX0_evict_17 dX0_evict_18 dX0_evict_20 dX0_evict_23
set_option maxRecDepth 100000 in
set_option maxHeartbeats 4000000 in
theorem cx_evict_no (l : Launch) (hl9 : l.stackTraces = false) (D : va_G) (o : Nat → Nat) (cA : ClassId) (sa sb sc : Nat) (S : SX) (u b : Nat) (hu : u < 4) (hbb : b < 16) (hh : xHo S u b = false) : xT l D o cA sa sb sc yX0_evict cX0_evict 3 (some .boolean) [.ref (o 0), .int (nI u), .int (nI b)] S "java/lang/IllegalStateException" := by
  intro sz
  refine x_metT (by decide) rfl (Nat.le_of_ble_eq_true rfl) ?_
  intro P0 e s m below meth c ls hsz hx hb hml hlocks hown hts hl hw hE hex
  subst hsz
  have hl : lv_has ls 3 [(0, .ref (o 0)), (1, .int (nI u)), (2, .int (nI b))] := hl
  refine lv_iload_n hx hb dX0_evict_0 rfl (lv_at hl 1 rfl) ?_
  refine x_cs (rest := []) ⟨hx, hb, hml, hown, hts⟩ (cx_isProcessor l (nI u)) (cwx_isProcessor hts ⟨by decide, by decide⟩) hw rfl hl.1 rfl (Nat.le_of_ble_eq_true rfl) dX0_evict_1 ⟨Nat.zero_le _, Nat.zero_le _⟩ (fun H locs hw => ?_)
  refine lv_if_eq (tgt := 14) hx hb dX0_evict_4 (by decide) (fun h9 => absurd h9 (bI_n.mpr (inR_t (n := 4) hu (by decide)))) (fun _ => ?_)
  refine lv_iload_n hx hb dX0_evict_7 rfl (lv_at hl 2 rfl) ?_
  refine x_cs (rest := []) ⟨hx, hb, hml, hown, hts⟩ (cx_isBlock l (nI b)) (cwx_isBlock hts ⟨by decide, by decide⟩) hw rfl hl.1 rfl (Nat.le_of_ble_eq_true rfl) dX0_evict_8 ⟨Nat.zero_le _, Nat.zero_le _⟩ (fun H locs hw => ?_)
  refine lv_if_ne (tgt := 24) hx hb dX0_evict_11 (by decide) (fun _ => ?_) (fun h9 => absurd h9 (bI_n.mpr (inR_t (n := 16) hbb (by decide))))
  refine lv_aload_n hx hb dX0_evict_24 rfl (lv_at hl 0 rfl) ?_
  refine lv_iload_n hx hb dX0_evict_25 rfl (lv_at hl 1 rfl) ?_
  refine lv_iload_n hx hb dX0_evict_26 rfl (lv_at hl 2 rfl) ?_
  refine x_ci (rest := []) ⟨hx, hb, hml, hown, hts⟩ (cx_holds l D o cA S u b (by omega) (by omega)) (cwx_holds hts ⟨by decide, by decide⟩) hw rfl hl.1 rfl (Nat.le_of_ble_eq_true rfl) dX0_evict_27 ⟨Nat.zero_le _, Nat.zero_le _⟩ (fun H locs hw => ?_)
  refine lv_if_ne (tgt := 43) hx hb dX0_evict_30 (by decide) (fun h9 => absurd h9 (fun h8 => h8 (bI_z.mpr hh))) (fun _ => ?_)
  exact x_thrS hx hb hl9 hts hown hw hE hex hlocks (hl.1.trans hml.symm) hE.2.2.2.2.1 dX0_evict_33 dX0_evict_36 dX0_evict_37 dX0_evict_39 dX0_evict_42
