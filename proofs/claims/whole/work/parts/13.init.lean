def o_x (a0 a1 a2 a3 a4 a5 a6 : Nat) : Nat → Nat := fun k => match k with
  | 0 => a0
  | 1 => a1
  | 2 => a2
  | 3 => a3
  | 4 => a4
  | 5 => a5
  | _ => a6
def rmIx : Room := { frames := 2, cells := 6, slots := 77, locals := 80 }
def iA (h sz : Nat) : Nat → Prop := fun q => q = h ∨ sz ≤ q
def S00 : SX := (fun _ _ => 0, fun _ => 0)
theorem ra_same {U : State} {c1 c2 : ClassId} (h1 : va_RA U c1 .int) (h2 : va_RA U c2 .int) : c2 = c1 := Option.some.inj (Eq.trans (Eq.symm h2) h1)
def xIPre (D : va_G) (h sz : Nat) (U : State) : Prop := U.heap.size = sz ∧ va_P D vwCl [(h, .inr (0, [.null, .null, .null, .null, .null, .null, .int 0, .int 0, .int 0, .int 0]))] U.heap ∧ va_K D vwCl [] U
def xIQ (D : va_G) (h sz : Nat) : Array Value → State → Outcome → State → Prop := va_Qv (fun (_ : Unit) => True) (fun _ t => ∃ (o : Nat → Nat) (cA : ClassId), o 0 = h ∧ va_P D vwCl (xw o cA (xSo S00 0)) t.heap ∧ va_K D vwCl [(cA, .int)] t ∧ va_D (iA h sz) (xw o cA (xSo S00 0))) (iA h sz)
set_option maxRecDepth 100000 in
set_option maxHeartbeats 4000000 in
theorem cx_init (l : Launch) (D : va_G) (h sz : Nat) : Met l yX0_init (.code yX0_init cX0_init 1 none :: GT) rmIx (va_Pc [.ref h] (xIPre D h sz)) (xIQ D h sz) 6 77 (iA h sz) := by
  refine Met.ofW (cc := cX0_init) (maxL := 1) (ret := none) (by decide) rfl ?_
  intro P0 e s m args below meth c s₁ B hml hv
  obtain ⟨rfl, hsz, hP, hK⟩ := hv
  subst hsz
  have hx := B.exec
  have hb := B.bytes
  have hr := B.returns
  have hlocks := B.notSynchronized
  have hts0 := atoms_spec (ws := Cond.code yX0_init cX0_init 1 none :: GT) B.pre
  have hts : ∀ w ∈ GT, w.before [Value.ref h].toArray s = true := fun w hw => hts0 w (List.mem_cons_of_mem _ hw)
  have hown : s.vm.findClass RX0 = some m.cls := findClass_of_methodNamed B.named
  have hin : meth.name = "<init>" := (name_of_methodNamed B.named B.method).1
  have hl := lv_entry [Value.ref h] (n := 1) (Nat.le_of_ble_eq_true rfl)
  rw [lg_entry_eq]
  generalize (lg_sl [Value.ref h] ++ List.replicate (1 - (lg_sl [Value.ref h]).length) Slot.unset).toArray = ls at hl ⊢
  have hl : lv_has ls 1 [(0, .ref h)] := hl
  have hD : va_D (iA h s.heap.size) [(h, .inr (0, [.null, .null, .null, .null, .null, .null, .int 0, .int 0, .int 0, .int 0]))] := ⟨fun i j p q hp hq _ => by
    have h1 := (List.getElem?_eq_some_iff.mp hp).1
    have h2 := (List.getElem?_eq_some_iff.mp hq).1
    simp at h1 h2
    omega, fun k p hk => by
    have h1 := (List.getElem?_eq_some_iff.mp hk).1
    simp at h1
    subst h1
    have h2 := Option.some.inj hk
    rw [← h2]
    exact Or.inl rfl⟩
  have hS : va_S (iA h s.heap.size) s.heap s.heap [] := va_S.rf
  have hA : ∀ q, s.heap.size ≤ q → iA h s.heap.size q := fun q hq => Or.inr hq
  refine lv_aload_n hx hb dX0_init_0 rfl (lv_at hl 0 rfl) ?_
  refine W.objInit hx hb hown (hts (.methodLink RX0 1 objectInit) gw_15) (hts (.instanceMethod objectInit) gw_16) (hts (.code objectInit ⟨#[0xb1]⟩ 1 none) gw_17) rfl (by rw [hml]; exact hl.1) rfl dX0_init_1 (Nat.le_of_ble_eq_true rfl) (Nat.le_of_ble_eq_true rfl) ?_
  refine W.eq (g2 := F0 m 4 ls []) rfl ?_
  refine lv_aload_n hx hb dX0_init_4 rfl (lv_at hl 0 rfl) ?_
  refine lv_bipush (v := 8) hx hb dX0_init_5 (by decide) ?_
  refine va_newa (atype := .int) (n := 8) (ty := .int) (N' := 8) (a0 := (8, .inl (fun _ => 0))) hx hb (hts (.arrayClass .int) gw_34) rfl hK hP hD hS hA (fun _ => rfl) (by decide) (by decide +kernel) (by decide +kernel) (Nat.le_of_ble_eq_true rfl) (Nat.le_of_ble_eq_true rfl) dX0_init_7 (fun q0 c0 H hK hP hD hS => ?_)
  have hP : va_P D vwCl [(h, .inr (0, [.null, .null, .null, .null, .null, .null, .int 0, .int 0, .int 0, .int 0])), (q0, .inl (c0, 8, .inl (fun _ => 0)))] H := hP
  have hD : va_D (iA h s.heap.size) [(h, .inr (0, [.null, .null, .null, .null, .null, .null, .int 0, .int 0, .int 0, .int 0])), (q0, .inl (c0, 8, .inl (fun _ => 0)))] := hD
  refine va_putF (D := D) (ci := 0) (v := .ref q0) (ty := .array .int) (C := RX0) (T := TX0) (N := 10) hx hb hts inX0 tyX0 tyX0_ok nmX0 hown hK hP hD hS 0 rfl rfl 0 (by decide) (hts (.fieldLink RX0 9 "SnoopBus" "lineStates" "[I") gw_24) (fun _ h9 => h9) rfl hin rfl (by decide +kernel) rfl rfl (Nat.le_of_ble_eq_true rfl) dX0_init_9 (fun H locs hP hD hS => ?_)
  have hP : va_P D vwCl [(h, .inr (0, [.ref q0, .null, .null, .null, .null, .null, .int 0, .int 0, .int 0, .int 0])), (q0, .inl (c0, 8, .inl (fun _ => 0)))] H := hP
  have hD : va_D (iA h s.heap.size) [(h, .inr (0, [.ref q0, .null, .null, .null, .null, .null, .int 0, .int 0, .int 0, .int 0])), (q0, .inl (c0, 8, .inl (fun _ => 0)))] := hD
  refine lv_aload_n hx hb dX0_init_12 rfl (lv_at hl 0 rfl) ?_
  refine lv_bipush (v := 8) hx hb dX0_init_13 (by decide) ?_
  refine va_newa (atype := .int) (n := 8) (ty := .int) (N' := 8) (a0 := (8, .inl (fun _ => 0))) hx hb (hts (.arrayClass .int) gw_34) rfl hK hP hD hS hA (fun _ => rfl) (by decide) (by decide +kernel) (by decide +kernel) (Nat.le_of_ble_eq_true rfl) (Nat.le_of_ble_eq_true rfl) dX0_init_15 (fun q1 c1 H hK hP hD hS => ?_)
  have hP : va_P D vwCl [(h, .inr (0, [.ref q0, .null, .null, .null, .null, .null, .int 0, .int 0, .int 0, .int 0])), (q0, .inl (c0, 8, .inl (fun _ => 0))), (q1, .inl (c1, 8, .inl (fun _ => 0)))] H := hP
  have hD : va_D (iA h s.heap.size) [(h, .inr (0, [.ref q0, .null, .null, .null, .null, .null, .int 0, .int 0, .int 0, .int 0])), (q0, .inl (c0, 8, .inl (fun _ => 0))), (q1, .inl (c1, 8, .inl (fun _ => 0)))] := hD
  refine va_putF (D := D) (ci := 0) (v := .ref q1) (ty := .array .int) (C := RX0) (T := TX0) (N := 10) hx hb hts inX0 tyX0 tyX0_ok nmX0 hown hK hP hD hS 0 rfl rfl 1 (by decide) (hts (.fieldLink RX0 13 "SnoopBus" "lineBlocks" "[I") gw_25) (fun _ h9 => h9) rfl hin rfl (by decide +kernel) rfl rfl (Nat.le_of_ble_eq_true rfl) dX0_init_17 (fun H locs hP hD hS => ?_)
  have hP : va_P D vwCl [(h, .inr (0, [.ref q0, .ref q1, .null, .null, .null, .null, .int 0, .int 0, .int 0, .int 0])), (q0, .inl (c0, 8, .inl (fun _ => 0))), (q1, .inl (c1, 8, .inl (fun _ => 0)))] H := hP
  have hD : va_D (iA h s.heap.size) [(h, .inr (0, [.ref q0, .ref q1, .null, .null, .null, .null, .int 0, .int 0, .int 0, .int 0])), (q0, .inl (c0, 8, .inl (fun _ => 0))), (q1, .inl (c1, 8, .inl (fun _ => 0)))] := hD
  refine lv_aload_n hx hb dX0_init_20 rfl (lv_at hl 0 rfl) ?_
  refine lv_bipush (v := 16) hx hb dX0_init_21 (by decide) ?_
  refine va_newa (atype := .int) (n := 16) (ty := .int) (N' := 16) (a0 := (16, .inl (fun _ => 0))) hx hb (hts (.arrayClass .int) gw_34) rfl hK hP hD hS hA (fun _ => rfl) (by decide) (by decide +kernel) (by decide +kernel) (Nat.le_of_ble_eq_true rfl) (Nat.le_of_ble_eq_true rfl) dX0_init_23 (fun q2 c2 H hK hP hD hS => ?_)
  have hP : va_P D vwCl [(h, .inr (0, [.ref q0, .ref q1, .null, .null, .null, .null, .int 0, .int 0, .int 0, .int 0])), (q0, .inl (c0, 8, .inl (fun _ => 0))), (q1, .inl (c1, 8, .inl (fun _ => 0))), (q2, .inl (c2, 16, .inl (fun _ => 0)))] H := hP
  have hD : va_D (iA h s.heap.size) [(h, .inr (0, [.ref q0, .ref q1, .null, .null, .null, .null, .int 0, .int 0, .int 0, .int 0])), (q0, .inl (c0, 8, .inl (fun _ => 0))), (q1, .inl (c1, 8, .inl (fun _ => 0))), (q2, .inl (c2, 16, .inl (fun _ => 0)))] := hD
  refine va_putF (D := D) (ci := 0) (v := .ref q2) (ty := .array .int) (C := RX0) (T := TX0) (N := 10) hx hb hts inX0 tyX0 tyX0_ok nmX0 hown hK hP hD hS 0 rfl rfl 2 (by decide) (hts (.fieldLink RX0 16 "SnoopBus" "lineWords" "[I") gw_26) (fun _ h9 => h9) rfl hin rfl (by decide +kernel) rfl rfl (Nat.le_of_ble_eq_true rfl) dX0_init_25 (fun H locs hP hD hS => ?_)
  have hP : va_P D vwCl [(h, .inr (0, [.ref q0, .ref q1, .ref q2, .null, .null, .null, .int 0, .int 0, .int 0, .int 0])), (q0, .inl (c0, 8, .inl (fun _ => 0))), (q1, .inl (c1, 8, .inl (fun _ => 0))), (q2, .inl (c2, 16, .inl (fun _ => 0)))] H := hP
  have hD : va_D (iA h s.heap.size) [(h, .inr (0, [.ref q0, .ref q1, .ref q2, .null, .null, .null, .int 0, .int 0, .int 0, .int 0])), (q0, .inl (c0, 8, .inl (fun _ => 0))), (q1, .inl (c1, 8, .inl (fun _ => 0))), (q2, .inl (c2, 16, .inl (fun _ => 0)))] := hD
  refine lv_aload_n hx hb dX0_init_28 rfl (lv_at hl 0 rfl) ?_
  refine lv_bipush (v := 32) hx hb dX0_init_29 (by decide) ?_
  refine va_newa (atype := .int) (n := 32) (ty := .int) (N' := 32) (a0 := (32, .inl (fun _ => 0))) hx hb (hts (.arrayClass .int) gw_34) rfl hK hP hD hS hA (fun _ => rfl) (by decide) (by decide +kernel) (by decide +kernel) (Nat.le_of_ble_eq_true rfl) (Nat.le_of_ble_eq_true rfl) dX0_init_31 (fun q3 c3 H hK hP hD hS => ?_)
  have hP : va_P D vwCl [(h, .inr (0, [.ref q0, .ref q1, .ref q2, .null, .null, .null, .int 0, .int 0, .int 0, .int 0])), (q0, .inl (c0, 8, .inl (fun _ => 0))), (q1, .inl (c1, 8, .inl (fun _ => 0))), (q2, .inl (c2, 16, .inl (fun _ => 0))), (q3, .inl (c3, 32, .inl (fun _ => 0)))] H := hP
  have hD : va_D (iA h s.heap.size) [(h, .inr (0, [.ref q0, .ref q1, .ref q2, .null, .null, .null, .int 0, .int 0, .int 0, .int 0])), (q0, .inl (c0, 8, .inl (fun _ => 0))), (q1, .inl (c1, 8, .inl (fun _ => 0))), (q2, .inl (c2, 16, .inl (fun _ => 0))), (q3, .inl (c3, 32, .inl (fun _ => 0)))] := hD
  refine va_putF (D := D) (ci := 0) (v := .ref q3) (ty := .array .int) (C := RX0) (T := TX0) (N := 10) hx hb hts inX0 tyX0 tyX0_ok nmX0 hown hK hP hD hS 0 rfl rfl 3 (by decide) (hts (.fieldLink RX0 19 "SnoopBus" "memoryWords" "[I") gw_27) (fun _ h9 => h9) rfl hin rfl (by decide +kernel) rfl rfl (Nat.le_of_ble_eq_true rfl) dX0_init_33 (fun H locs hP hD hS => ?_)
  have hP : va_P D vwCl [(h, .inr (0, [.ref q0, .ref q1, .ref q2, .ref q3, .null, .null, .int 0, .int 0, .int 0, .int 0])), (q0, .inl (c0, 8, .inl (fun _ => 0))), (q1, .inl (c1, 8, .inl (fun _ => 0))), (q2, .inl (c2, 16, .inl (fun _ => 0))), (q3, .inl (c3, 32, .inl (fun _ => 0)))] H := hP
  have hD : va_D (iA h s.heap.size) [(h, .inr (0, [.ref q0, .ref q1, .ref q2, .ref q3, .null, .null, .int 0, .int 0, .int 0, .int 0])), (q0, .inl (c0, 8, .inl (fun _ => 0))), (q1, .inl (c1, 8, .inl (fun _ => 0))), (q2, .inl (c2, 16, .inl (fun _ => 0))), (q3, .inl (c3, 32, .inl (fun _ => 0)))] := hD
  refine lv_aload_n hx hb dX0_init_36 rfl (lv_at hl 0 rfl) ?_
  refine lv_iconst (v := 5) hx hb dX0_init_37 (by decide) ?_
  refine va_newa (atype := .int) (n := 5) (ty := .int) (N' := 5) (a0 := (5, .inl (fun _ => 0))) hx hb (hts (.arrayClass .int) gw_34) rfl hK hP hD hS hA (fun _ => rfl) (by decide) (by decide +kernel) (by decide +kernel) (Nat.le_of_ble_eq_true rfl) (Nat.le_of_ble_eq_true rfl) dX0_init_38 (fun q4 c4 H hK hP hD hS => ?_)
  have hP : va_P D vwCl [(h, .inr (0, [.ref q0, .ref q1, .ref q2, .ref q3, .null, .null, .int 0, .int 0, .int 0, .int 0])), (q0, .inl (c0, 8, .inl (fun _ => 0))), (q1, .inl (c1, 8, .inl (fun _ => 0))), (q2, .inl (c2, 16, .inl (fun _ => 0))), (q3, .inl (c3, 32, .inl (fun _ => 0))), (q4, .inl (c4, 5, .inl (fun _ => 0)))] H := hP
  have hD : va_D (iA h s.heap.size) [(h, .inr (0, [.ref q0, .ref q1, .ref q2, .ref q3, .null, .null, .int 0, .int 0, .int 0, .int 0])), (q0, .inl (c0, 8, .inl (fun _ => 0))), (q1, .inl (c1, 8, .inl (fun _ => 0))), (q2, .inl (c2, 16, .inl (fun _ => 0))), (q3, .inl (c3, 32, .inl (fun _ => 0))), (q4, .inl (c4, 5, .inl (fun _ => 0)))] := hD
  refine va_putF (D := D) (ci := 0) (v := .ref q4) (ty := .array .int) (C := RX0) (T := TX0) (N := 10) hx hb hts inX0 tyX0 tyX0_ok nmX0 hown hK hP hD hS 0 rfl rfl 4 (by decide) (hts (.fieldLink RX0 22 "SnoopBus" "kindCounts" "[I") gw_28) (fun _ h9 => h9) rfl hin rfl (by decide +kernel) rfl rfl (Nat.le_of_ble_eq_true rfl) dX0_init_40 (fun H locs hP hD hS => ?_)
  have hP : va_P D vwCl [(h, .inr (0, [.ref q0, .ref q1, .ref q2, .ref q3, .ref q4, .null, .int 0, .int 0, .int 0, .int 0])), (q0, .inl (c0, 8, .inl (fun _ => 0))), (q1, .inl (c1, 8, .inl (fun _ => 0))), (q2, .inl (c2, 16, .inl (fun _ => 0))), (q3, .inl (c3, 32, .inl (fun _ => 0))), (q4, .inl (c4, 5, .inl (fun _ => 0)))] H := hP
  have hD : va_D (iA h s.heap.size) [(h, .inr (0, [.ref q0, .ref q1, .ref q2, .ref q3, .ref q4, .null, .int 0, .int 0, .int 0, .int 0])), (q0, .inl (c0, 8, .inl (fun _ => 0))), (q1, .inl (c1, 8, .inl (fun _ => 0))), (q2, .inl (c2, 16, .inl (fun _ => 0))), (q3, .inl (c3, 32, .inl (fun _ => 0))), (q4, .inl (c4, 5, .inl (fun _ => 0)))] := hD
  refine lv_aload_n hx hb dX0_init_43 rfl (lv_at hl 0 rfl) ?_
  refine lv_bipush (v := 8) hx hb dX0_init_44 (by decide) ?_
  refine va_newa (atype := .int) (n := 8) (ty := .int) (N' := 8) (a0 := (8, .inl (fun _ => 0))) hx hb (hts (.arrayClass .int) gw_34) rfl hK hP hD hS hA (fun _ => rfl) (by decide) (by decide +kernel) (by decide +kernel) (Nat.le_of_ble_eq_true rfl) (Nat.le_of_ble_eq_true rfl) dX0_init_46 (fun q5 c5 H hK hP hD hS => ?_)
  have hP : va_P D vwCl [(h, .inr (0, [.ref q0, .ref q1, .ref q2, .ref q3, .ref q4, .null, .int 0, .int 0, .int 0, .int 0])), (q0, .inl (c0, 8, .inl (fun _ => 0))), (q1, .inl (c1, 8, .inl (fun _ => 0))), (q2, .inl (c2, 16, .inl (fun _ => 0))), (q3, .inl (c3, 32, .inl (fun _ => 0))), (q4, .inl (c4, 5, .inl (fun _ => 0))), (q5, .inl (c5, 8, .inl (fun _ => 0)))] H := hP
  have hD : va_D (iA h s.heap.size) [(h, .inr (0, [.ref q0, .ref q1, .ref q2, .ref q3, .ref q4, .null, .int 0, .int 0, .int 0, .int 0])), (q0, .inl (c0, 8, .inl (fun _ => 0))), (q1, .inl (c1, 8, .inl (fun _ => 0))), (q2, .inl (c2, 16, .inl (fun _ => 0))), (q3, .inl (c3, 32, .inl (fun _ => 0))), (q4, .inl (c4, 5, .inl (fun _ => 0))), (q5, .inl (c5, 8, .inl (fun _ => 0)))] := hD
  refine va_putF (D := D) (ci := 0) (v := .ref q5) (ty := .array .int) (C := RX0) (T := TX0) (N := 10) hx hb hts inX0 tyX0 tyX0_ok nmX0 hown hK hP hD hS 0 rfl rfl 5 (by decide) (hts (.fieldLink RX0 25 "SnoopBus" "recent" "[I") gw_29) (fun _ h9 => h9) rfl hin rfl (by decide +kernel) rfl rfl (Nat.le_of_ble_eq_true rfl) dX0_init_48 (fun H locs hP hD hS => ?_)
  have hP : va_P D vwCl [(h, .inr (0, [.ref q0, .ref q1, .ref q2, .ref q3, .ref q4, .ref q5, .int 0, .int 0, .int 0, .int 0])), (q0, .inl (c0, 8, .inl (fun _ => 0))), (q1, .inl (c1, 8, .inl (fun _ => 0))), (q2, .inl (c2, 16, .inl (fun _ => 0))), (q3, .inl (c3, 32, .inl (fun _ => 0))), (q4, .inl (c4, 5, .inl (fun _ => 0))), (q5, .inl (c5, 8, .inl (fun _ => 0)))] H := hP
  have hD : va_D (iA h s.heap.size) [(h, .inr (0, [.ref q0, .ref q1, .ref q2, .ref q3, .ref q4, .ref q5, .int 0, .int 0, .int 0, .int 0])), (q0, .inl (c0, 8, .inl (fun _ => 0))), (q1, .inl (c1, 8, .inl (fun _ => 0))), (q2, .inl (c2, 16, .inl (fun _ => 0))), (q3, .inl (c3, 32, .inl (fun _ => 0))), (q4, .inl (c4, 5, .inl (fun _ => 0))), (q5, .inl (c5, 8, .inl (fun _ => 0)))] := hD
  obtain rfl : c0 = c1 := (ra_same (hK.2 0 _ rfl).2 (hK.2 1 _ rfl).2).symm
  obtain rfl : c0 = c2 := (ra_same (hK.2 0 _ rfl).2 (hK.2 2 _ rfl).2).symm
  obtain rfl : c0 = c3 := (ra_same (hK.2 0 _ rfl).2 (hK.2 3 _ rfl).2).symm
  obtain rfl : c0 = c4 := (ra_same (hK.2 0 _ rfl).2 (hK.2 4 _ rfl).2).symm
  obtain rfl : c0 = c5 := (ra_same (hK.2 0 _ rfl).2 (hK.2 5 _ rfl).2).symm
  have hK1 : va_K D vwCl [(c0, .int)] s := hK.sub [0] rfl
  have hw : xW D (o_x h q0 q1 q2 q3 q4 q5) c0 (iA h s.heap.size) s s.heap S00 H locs := ⟨hP, hD, hS, hK1, hA⟩
  refine lv_aload_n hx hb dX0_init_51 rfl (lv_at hl 0 rfl) ?_
  refine lv_iconst (v := 0) hx hb dX0_init_52 (by decide) ?_
  refine x_cv (o := (o_x h q0 q1 q2 q3 q4 q5)) (rest := []) ⟨hx, hb, hml, hown, hts⟩ (cx_startOver l D (o_x h q0 q1 q2 q3 q4 q5) c0 S00 0) (cwx_startOver hts ⟨by decide, by decide⟩) hw rfl hl.1 rfl (Nat.le_of_ble_eq_true rfl) dX0_init_53 ⟨by decide, by decide⟩ (fun H locs hw => ?_)
  obtain ⟨hP, hD, hS, -, -⟩ := hw
  exact W.vret hx hb hr (fun t ht hW => ⟨⟨(), rfl, trivial, (o_x h q0 q1 q2 q3 q4 q5), c0, rfl, by rw [ht]; exact hP, va_K.moved hW.alike hK1, hD⟩, hS.F ht⟩) hS.2.2 dX0_init_56
def o_m (a0 a1 a2 a3 a4 a5 : Nat) : Nat → Nat := fun k => match k with
  | 0 => a0
  | 1 => a1
  | 2 => a2
  | 3 => a3
  | 4 => a4
  | _ => a5
def rmIm : Room := { frames := 2, cells := 5, slots := 237, locals := 80 }
def mIPre (D : va_G) (h sz : Nat) (U : State) : Prop := U.heap.size = sz ∧ va_P D vwCl [(h, .inr (1, [.null, .null, .null, .null, .null, .int 0, .int 0, .int 0, .int 0, .int 0]))] U.heap ∧ va_K D vwCl [] U
def mIQ (D : va_G) (h sz : Nat) : Array Value → State → Outcome → State → Prop := va_Qv (fun (_ : Unit) => True) (fun _ t => ∃ (o : Nat → Nat) (cA : ClassId), o 0 = h ∧ va_P D vwCl (mw o cA (zF S00 0 0)) t.heap ∧ va_K D vwCl [(cA, .int)] t ∧ va_D (iA h sz) (mw o cA (zF S00 0 0))) (iA h sz)
set_option maxRecDepth 100000 in
set_option maxHeartbeats 4000000 in
theorem cm_init (l : Launch) (D : va_G) (h sz : Nat) : Met l yX1_init (.code yX1_init cX1_init 1 none :: GT) rmIm (va_Pc [.ref h] (mIPre D h sz)) (mIQ D h sz) 5 237 (iA h sz) := by
  refine Met.ofW (cc := cX1_init) (maxL := 1) (ret := none) (by decide) rfl ?_
  intro P0 e s m args below meth c s₁ B hml hv
  obtain ⟨rfl, hsz, hP, hK⟩ := hv
  subst hsz
  have hx := B.exec
  have hb := B.bytes
  have hr := B.returns
  have hlocks := B.notSynchronized
  have hts0 := atoms_spec (ws := Cond.code yX1_init cX1_init 1 none :: GT) B.pre
  have hts : ∀ w ∈ GT, w.before [Value.ref h].toArray s = true := fun w hw => hts0 w (List.mem_cons_of_mem _ hw)
  have hown : s.vm.findClass RX1 = some m.cls := findClass_of_methodNamed B.named
  have hin : meth.name = "<init>" := (name_of_methodNamed B.named B.method).1
  have hl := lv_entry [Value.ref h] (n := 1) (Nat.le_of_ble_eq_true rfl)
  rw [lg_entry_eq]
  generalize (lg_sl [Value.ref h] ++ List.replicate (1 - (lg_sl [Value.ref h]).length) Slot.unset).toArray = ls at hl ⊢
  have hl : lv_has ls 1 [(0, .ref h)] := hl
  have hD : va_D (iA h s.heap.size) [(h, .inr (1, [.null, .null, .null, .null, .null, .int 0, .int 0, .int 0, .int 0, .int 0]))] := ⟨fun i j p q hp hq _ => by
    have h1 := (List.getElem?_eq_some_iff.mp hp).1
    have h2 := (List.getElem?_eq_some_iff.mp hq).1
    simp at h1 h2
    omega, fun k p hk => by
    have h1 := (List.getElem?_eq_some_iff.mp hk).1
    simp at h1
    subst h1
    have h2 := Option.some.inj hk
    rw [← h2]
    exact Or.inl rfl⟩
  have hS : va_S (iA h s.heap.size) s.heap s.heap [] := va_S.rf
  have hA : ∀ q, s.heap.size ≤ q → iA h s.heap.size q := fun q hq => Or.inr hq
  refine lv_aload_n hx hb dX1_init_0 rfl (lv_at hl 0 rfl) ?_
  refine W.objInit hx hb hown (hts (.methodLink RX1 1 objectInit) gw_180) (hts (.instanceMethod objectInit) gw_16) (hts (.code objectInit ⟨#[0xb1]⟩ 1 none) gw_17) rfl (by rw [hml]; exact hl.1) rfl dX1_init_1 (Nat.le_of_ble_eq_true rfl) (Nat.le_of_ble_eq_true rfl) ?_
  refine W.eq (g2 := F0 m 4 ls []) rfl ?_
  refine lv_aload_n hx hb dX1_init_4 rfl (lv_at hl 0 rfl) ?_
  refine lv_bipush (v := 64) hx hb dX1_init_5 (by decide) ?_
  refine va_newa (atype := .int) (n := 64) (ty := .int) (N' := 64) (a0 := (64, .inl (fun _ => 0))) hx hb (hts (.arrayClass .int) gw_34) rfl hK hP hD hS hA (fun _ => rfl) (by decide) (by decide +kernel) (by decide +kernel) (Nat.le_of_ble_eq_true rfl) (Nat.le_of_ble_eq_true rfl) dX1_init_7 (fun q0 c0 H hK hP hD hS => ?_)
  have hP : va_P D vwCl [(h, .inr (1, [.null, .null, .null, .null, .null, .int 0, .int 0, .int 0, .int 0, .int 0])), (q0, .inl (c0, 64, .inl (fun _ => 0)))] H := hP
  have hD : va_D (iA h s.heap.size) [(h, .inr (1, [.null, .null, .null, .null, .null, .int 0, .int 0, .int 0, .int 0, .int 0])), (q0, .inl (c0, 64, .inl (fun _ => 0)))] := hD
  refine va_putF (D := D) (ci := 1) (v := .ref q0) (ty := .array .int) (C := RX1) (T := TX1) (N := 10) hx hb hts inX1 tyX1 tyX1_ok nmX1 hown hK hP hD hS 0 rfl rfl 0 (by decide) (hts (.fieldLink RX1 7 "SnoopBusModel" "states" "[I") gw_181) (fun _ h9 => h9) rfl hin rfl (by decide +kernel) rfl rfl (Nat.le_of_ble_eq_true rfl) dX1_init_9 (fun H locs hP hD hS => ?_)
  have hP : va_P D vwCl [(h, .inr (1, [.ref q0, .null, .null, .null, .null, .int 0, .int 0, .int 0, .int 0, .int 0])), (q0, .inl (c0, 64, .inl (fun _ => 0)))] H := hP
  have hD : va_D (iA h s.heap.size) [(h, .inr (1, [.ref q0, .null, .null, .null, .null, .int 0, .int 0, .int 0, .int 0, .int 0])), (q0, .inl (c0, 64, .inl (fun _ => 0)))] := hD
  refine lv_aload_n hx hb dX1_init_12 rfl (lv_at hl 0 rfl) ?_
  refine lv_sipush (v := 128) hx hb dX1_init_13 (by decide) ?_
  refine va_newa (atype := .int) (n := 128) (ty := .int) (N' := 128) (a0 := (128, .inl (fun _ => 0))) hx hb (hts (.arrayClass .int) gw_34) rfl hK hP hD hS hA (fun _ => rfl) (by decide) (by decide +kernel) (by decide +kernel) (Nat.le_of_ble_eq_true rfl) (Nat.le_of_ble_eq_true rfl) dX1_init_16 (fun q1 c1 H hK hP hD hS => ?_)
  have hP : va_P D vwCl [(h, .inr (1, [.ref q0, .null, .null, .null, .null, .int 0, .int 0, .int 0, .int 0, .int 0])), (q0, .inl (c0, 64, .inl (fun _ => 0))), (q1, .inl (c1, 128, .inl (fun _ => 0)))] H := hP
  have hD : va_D (iA h s.heap.size) [(h, .inr (1, [.ref q0, .null, .null, .null, .null, .int 0, .int 0, .int 0, .int 0, .int 0])), (q0, .inl (c0, 64, .inl (fun _ => 0))), (q1, .inl (c1, 128, .inl (fun _ => 0)))] := hD
  refine va_putF (D := D) (ci := 1) (v := .ref q1) (ty := .array .int) (C := RX1) (T := TX1) (N := 10) hx hb hts inX1 tyX1 tyX1_ok nmX1 hown hK hP hD hS 0 rfl rfl 1 (by decide) (hts (.fieldLink RX1 13 "SnoopBusModel" "words" "[I") gw_182) (fun _ h9 => h9) rfl hin rfl (by decide +kernel) rfl rfl (Nat.le_of_ble_eq_true rfl) dX1_init_18 (fun H locs hP hD hS => ?_)
  have hP : va_P D vwCl [(h, .inr (1, [.ref q0, .ref q1, .null, .null, .null, .int 0, .int 0, .int 0, .int 0, .int 0])), (q0, .inl (c0, 64, .inl (fun _ => 0))), (q1, .inl (c1, 128, .inl (fun _ => 0)))] H := hP
  have hD : va_D (iA h s.heap.size) [(h, .inr (1, [.ref q0, .ref q1, .null, .null, .null, .int 0, .int 0, .int 0, .int 0, .int 0])), (q0, .inl (c0, 64, .inl (fun _ => 0))), (q1, .inl (c1, 128, .inl (fun _ => 0)))] := hD
  refine lv_aload_n hx hb dX1_init_21 rfl (lv_at hl 0 rfl) ?_
  refine lv_bipush (v := 32) hx hb dX1_init_22 (by decide) ?_
  refine va_newa (atype := .int) (n := 32) (ty := .int) (N' := 32) (a0 := (32, .inl (fun _ => 0))) hx hb (hts (.arrayClass .int) gw_34) rfl hK hP hD hS hA (fun _ => rfl) (by decide) (by decide +kernel) (by decide +kernel) (Nat.le_of_ble_eq_true rfl) (Nat.le_of_ble_eq_true rfl) dX1_init_24 (fun q2 c2 H hK hP hD hS => ?_)
  have hP : va_P D vwCl [(h, .inr (1, [.ref q0, .ref q1, .null, .null, .null, .int 0, .int 0, .int 0, .int 0, .int 0])), (q0, .inl (c0, 64, .inl (fun _ => 0))), (q1, .inl (c1, 128, .inl (fun _ => 0))), (q2, .inl (c2, 32, .inl (fun _ => 0)))] H := hP
  have hD : va_D (iA h s.heap.size) [(h, .inr (1, [.ref q0, .ref q1, .null, .null, .null, .int 0, .int 0, .int 0, .int 0, .int 0])), (q0, .inl (c0, 64, .inl (fun _ => 0))), (q1, .inl (c1, 128, .inl (fun _ => 0))), (q2, .inl (c2, 32, .inl (fun _ => 0)))] := hD
  refine va_putF (D := D) (ci := 1) (v := .ref q2) (ty := .array .int) (C := RX1) (T := TX1) (N := 10) hx hb hts inX1 tyX1 tyX1_ok nmX1 hown hK hP hD hS 0 rfl rfl 2 (by decide) (hts (.fieldLink RX1 16 "SnoopBusModel" "memory" "[I") gw_183) (fun _ h9 => h9) rfl hin rfl (by decide +kernel) rfl rfl (Nat.le_of_ble_eq_true rfl) dX1_init_26 (fun H locs hP hD hS => ?_)
  have hP : va_P D vwCl [(h, .inr (1, [.ref q0, .ref q1, .ref q2, .null, .null, .int 0, .int 0, .int 0, .int 0, .int 0])), (q0, .inl (c0, 64, .inl (fun _ => 0))), (q1, .inl (c1, 128, .inl (fun _ => 0))), (q2, .inl (c2, 32, .inl (fun _ => 0)))] H := hP
  have hD : va_D (iA h s.heap.size) [(h, .inr (1, [.ref q0, .ref q1, .ref q2, .null, .null, .int 0, .int 0, .int 0, .int 0, .int 0])), (q0, .inl (c0, 64, .inl (fun _ => 0))), (q1, .inl (c1, 128, .inl (fun _ => 0))), (q2, .inl (c2, 32, .inl (fun _ => 0)))] := hD
  refine lv_aload_n hx hb dX1_init_29 rfl (lv_at hl 0 rfl) ?_
  refine lv_iconst (v := 5) hx hb dX1_init_30 (by decide) ?_
  refine va_newa (atype := .int) (n := 5) (ty := .int) (N' := 5) (a0 := (5, .inl (fun _ => 0))) hx hb (hts (.arrayClass .int) gw_34) rfl hK hP hD hS hA (fun _ => rfl) (by decide) (by decide +kernel) (by decide +kernel) (Nat.le_of_ble_eq_true rfl) (Nat.le_of_ble_eq_true rfl) dX1_init_31 (fun q3 c3 H hK hP hD hS => ?_)
  have hP : va_P D vwCl [(h, .inr (1, [.ref q0, .ref q1, .ref q2, .null, .null, .int 0, .int 0, .int 0, .int 0, .int 0])), (q0, .inl (c0, 64, .inl (fun _ => 0))), (q1, .inl (c1, 128, .inl (fun _ => 0))), (q2, .inl (c2, 32, .inl (fun _ => 0))), (q3, .inl (c3, 5, .inl (fun _ => 0)))] H := hP
  have hD : va_D (iA h s.heap.size) [(h, .inr (1, [.ref q0, .ref q1, .ref q2, .null, .null, .int 0, .int 0, .int 0, .int 0, .int 0])), (q0, .inl (c0, 64, .inl (fun _ => 0))), (q1, .inl (c1, 128, .inl (fun _ => 0))), (q2, .inl (c2, 32, .inl (fun _ => 0))), (q3, .inl (c3, 5, .inl (fun _ => 0)))] := hD
  refine va_putF (D := D) (ci := 1) (v := .ref q3) (ty := .array .int) (C := RX1) (T := TX1) (N := 10) hx hb hts inX1 tyX1 tyX1_ok nmX1 hown hK hP hD hS 0 rfl rfl 3 (by decide) (hts (.fieldLink RX1 19 "SnoopBusModel" "counts" "[I") gw_184) (fun _ h9 => h9) rfl hin rfl (by decide +kernel) rfl rfl (Nat.le_of_ble_eq_true rfl) dX1_init_33 (fun H locs hP hD hS => ?_)
  have hP : va_P D vwCl [(h, .inr (1, [.ref q0, .ref q1, .ref q2, .ref q3, .null, .int 0, .int 0, .int 0, .int 0, .int 0])), (q0, .inl (c0, 64, .inl (fun _ => 0))), (q1, .inl (c1, 128, .inl (fun _ => 0))), (q2, .inl (c2, 32, .inl (fun _ => 0))), (q3, .inl (c3, 5, .inl (fun _ => 0)))] H := hP
  have hD : va_D (iA h s.heap.size) [(h, .inr (1, [.ref q0, .ref q1, .ref q2, .ref q3, .null, .int 0, .int 0, .int 0, .int 0, .int 0])), (q0, .inl (c0, 64, .inl (fun _ => 0))), (q1, .inl (c1, 128, .inl (fun _ => 0))), (q2, .inl (c2, 32, .inl (fun _ => 0))), (q3, .inl (c3, 5, .inl (fun _ => 0)))] := hD
  refine lv_aload_n hx hb dX1_init_36 rfl (lv_at hl 0 rfl) ?_
  refine lv_bipush (v := 8) hx hb dX1_init_37 (by decide) ?_
  refine va_newa (atype := .int) (n := 8) (ty := .int) (N' := 8) (a0 := (8, .inl (fun _ => 0))) hx hb (hts (.arrayClass .int) gw_34) rfl hK hP hD hS hA (fun _ => rfl) (by decide) (by decide +kernel) (by decide +kernel) (Nat.le_of_ble_eq_true rfl) (Nat.le_of_ble_eq_true rfl) dX1_init_39 (fun q4 c4 H hK hP hD hS => ?_)
  have hP : va_P D vwCl [(h, .inr (1, [.ref q0, .ref q1, .ref q2, .ref q3, .null, .int 0, .int 0, .int 0, .int 0, .int 0])), (q0, .inl (c0, 64, .inl (fun _ => 0))), (q1, .inl (c1, 128, .inl (fun _ => 0))), (q2, .inl (c2, 32, .inl (fun _ => 0))), (q3, .inl (c3, 5, .inl (fun _ => 0))), (q4, .inl (c4, 8, .inl (fun _ => 0)))] H := hP
  have hD : va_D (iA h s.heap.size) [(h, .inr (1, [.ref q0, .ref q1, .ref q2, .ref q3, .null, .int 0, .int 0, .int 0, .int 0, .int 0])), (q0, .inl (c0, 64, .inl (fun _ => 0))), (q1, .inl (c1, 128, .inl (fun _ => 0))), (q2, .inl (c2, 32, .inl (fun _ => 0))), (q3, .inl (c3, 5, .inl (fun _ => 0))), (q4, .inl (c4, 8, .inl (fun _ => 0)))] := hD
  refine va_putF (D := D) (ci := 1) (v := .ref q4) (ty := .array .int) (C := RX1) (T := TX1) (N := 10) hx hb hts inX1 tyX1 tyX1_ok nmX1 hown hK hP hD hS 0 rfl rfl 4 (by decide) (hts (.fieldLink RX1 22 "SnoopBusModel" "last" "[I") gw_185) (fun _ h9 => h9) rfl hin rfl (by decide +kernel) rfl rfl (Nat.le_of_ble_eq_true rfl) dX1_init_41 (fun H locs hP hD hS => ?_)
  have hP : va_P D vwCl [(h, .inr (1, [.ref q0, .ref q1, .ref q2, .ref q3, .ref q4, .int 0, .int 0, .int 0, .int 0, .int 0])), (q0, .inl (c0, 64, .inl (fun _ => 0))), (q1, .inl (c1, 128, .inl (fun _ => 0))), (q2, .inl (c2, 32, .inl (fun _ => 0))), (q3, .inl (c3, 5, .inl (fun _ => 0))), (q4, .inl (c4, 8, .inl (fun _ => 0)))] H := hP
  have hD : va_D (iA h s.heap.size) [(h, .inr (1, [.ref q0, .ref q1, .ref q2, .ref q3, .ref q4, .int 0, .int 0, .int 0, .int 0, .int 0])), (q0, .inl (c0, 64, .inl (fun _ => 0))), (q1, .inl (c1, 128, .inl (fun _ => 0))), (q2, .inl (c2, 32, .inl (fun _ => 0))), (q3, .inl (c3, 5, .inl (fun _ => 0))), (q4, .inl (c4, 8, .inl (fun _ => 0)))] := hD
  obtain rfl : c0 = c1 := (ra_same (hK.2 0 _ rfl).2 (hK.2 1 _ rfl).2).symm
  obtain rfl : c0 = c2 := (ra_same (hK.2 0 _ rfl).2 (hK.2 2 _ rfl).2).symm
  obtain rfl : c0 = c3 := (ra_same (hK.2 0 _ rfl).2 (hK.2 3 _ rfl).2).symm
  obtain rfl : c0 = c4 := (ra_same (hK.2 0 _ rfl).2 (hK.2 4 _ rfl).2).symm
  have hK1 : va_K D vwCl [(c0, .int)] s := hK.sub [0] rfl
  have hw : mW D (o_m h q0 q1 q2 q3 q4) c0 (iA h s.heap.size) s s.heap S00 H locs := ⟨hP, hD, hS, hK1, hA⟩
  refine lv_aload_n hx hb dX1_init_44 rfl (lv_at hl 0 rfl) ?_
  refine lv_iconst (v := 0) hx hb dX1_init_45 (by decide) ?_
  refine m_p0 (o := (o_m h q0 q1 q2 q3 q4)) (x := 0) hx hb hts hown hw dX1_init_46 (fun H locs hw => ?_)
  obtain ⟨hP, hD, hS, -, -⟩ := hw
  exact W.vret hx hb hr (fun t ht hW => ⟨⟨(), rfl, trivial, (o_m h q0 q1 q2 q3 q4), c0, rfl, by rw [ht]; exact hP, va_K.moved hW.alike hK1, hD⟩, hS.F ht⟩) hS.2.2 dX1_init_49
