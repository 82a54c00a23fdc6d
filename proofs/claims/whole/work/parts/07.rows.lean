/-! rows of my own over the kit's: a top of another form; static methods without a world -/
def rmD (d : Nat) : Room := { frames := d, cells := 0, slots := 0, locals := 40 * d }
theorem lw_gin {w : Cond} {ws : List Cond} (h : GoodIn GT ws) (hm : w ∈ GT) : GoodIn GT (w :: ws) := fun v hv => by
  rcases List.mem_cons.mp hv with e | h2
  · rw [e]
    exact ⟨hm, good_of_word (List.mem_filter.mp hm).2⟩
  · exact h v h2
theorem lw_self : GoodIn GT GT := fun w h => ⟨h, good_of_word (List.mem_filter.mp h).2⟩
theorem lw_inc (k c : Nat) : nI k + Int32.ofInt c = nI (k + c) := by
  have h : Int32.ofInt c = nI c := by
    unfold nI
    rw [← Int32.toBitVec_inj]
    simp
  rw [h, nI_add]
theorem arr_congr {cA : ClassId} {n : Nat} {f g : Nat → Int32} (h : ∀ j, j < n → f j = g j) : vp_cell cA (n, .inl f) = vp_cell cA (n, .inl g) := by
  rw [vp_cell_i, vp_cell_i]
  unfold arrV
  congr 2
  funext j
  exact congrArg Value.int (h j.val j.isLt)
section RowsA
variable {p : Program} {l : Launch} {e : Env} {R : Room} {s : State} {m : MethodId} {args : Array Value} {below : List Frame} {meth : Method} {c : Code} {H : Heap} {locs : List Loc} {cells slots : Nat} {Q : State → Prop}
variable {cc : ByteArray} {pc : Nat} {ls : Array Slot} {rest : List Value} {D : va_G} {A : Nat → Prop} {H0 : Heap} {o : Nat → Nat} {cA : ClassId} {S : SX}
theorem lw_top {x y : Int32} (h : x = y) (k : W p l e R s m args below meth c H locs cells slots Q (F0 m pc ls (.int y :: rest))) : W p l e R s m args below meth c H locs cells slots Q (F0 m pc ls (.int x :: rest)) := h ▸ k
def sQ (r1 : Int32) : Array Value → State → Outcome → State → Prop := va_Qi (fun (r : Int32) (_ : Unit) => r = r1) (fun _ _ => True) (fun _ => False)
def sM (l : Launch) (y : MethodName) (code : ByteArray) (maxL : Nat) (ret : Option FieldType) (d : Nat) (As : List Value) (r1 : Int32) : Prop :=
  Met l y (.code y code maxL ret :: GT) (rmD d) (va_Pc As (fun _ => True)) (sQ r1) 0 0 (fun _ => False)
theorem s_met {y : MethodName} {code : ByteArray} {maxL d : Nat} {ret : Option FieldType} {As : List Value} {r1 : Int32} {own : String} (hy : plainName y.cls = true) (ho : y.cls = own) (hlen : (lg_sl As).length ≤ maxL)
    (body : ∀ (p : Program) (e : Env) (s : State) (m : MethodId) (below : List Frame) (meth : Method) (c : Code) (ls : Array Slot), p.tables.exec = Jvm.exec → c.code = code → c.maxLocals = maxL → meth.sig.returnType = ret → meth.locks = false → s.vm.findClass own = some m.cls → (∀ w ∈ GT, w.before As.toArray s = true) → lv_has ls maxL (lv_args 0 As) → va_S (fun _ => False) s.heap s.heap [] →
      W p l e (rmD d) s m As.toArray below meth c s.heap [] 0 0 (MQ below (sQ r1) As.toArray s 0 0 (fun _ => False)) (F0 m 0 ls [])) : sM l y code maxL ret d As r1 := by
  refine Met.ofW (cc := code) (maxL := maxL) (ret := ret) hy rfl ?_
  intro p e s m args below meth c s₁ B hml hv
  obtain ⟨rfl, -⟩ := hv
  have hts0 := atoms_spec (ws := Cond.code y code maxL ret :: GT) B.pre
  have hown : s.vm.findClass y.cls = some m.cls := findClass_of_methodNamed B.named
  rw [ho] at hown
  rw [lg_entry_eq]
  exact body p e s m below meth c _ B.exec B.bytes hml B.returns B.notSynchronized hown (fun w h => hts0 w (List.mem_cons_of_mem _ h)) (lv_entry As hlen) va_S.rf
theorem s_ret {r r1 : Int32} (hx : p.tables.exec = Jvm.exec) (hb : c.code = cc) (hr : meth.sig.returnType = some .int) (hlocks : meth.locks = false) (hS : va_S (fun _ => False) s.heap H locs) (h : r = r1) (hdg : decode cc pc = .ok (.ireturn, 1)) :
    W p l e R s m args below meth c H locs cells slots (MQ below (sQ r1) args s cells slots (fun _ => False)) (F0 m pc ls [.int r]) :=
  W.iret (v := r) hx hb hr (fun t ht hW => ⟨⟨r, (), rfl, h, trivial⟩, hS.F ht⟩) hS.2.2 hdg hlocks
theorem s_retz {r : Int32} {b : Bool} (hx : p.tables.exec = Jvm.exec) (hb : c.code = cc) (hr : meth.sig.returnType = some .boolean) (hlocks : meth.locks = false) (hS : va_S (fun _ => False) s.heap H locs) (h : r = bI b) (hdg : decode cc pc = .ok (.ireturn, 1)) :
    W p l e R s m args below meth c H locs cells slots (MQ below (sQ (bI b)) args s cells slots (fun _ => False)) (F0 m pc ls [.int r]) := by
  subst h
  exact W.zret (v := bI b) (ty := .boolean) hx hb hr (bI_nar b) (fun t ht hW => ⟨⟨bI b, (), rfl, rfl, trivial⟩, hS.F ht⟩) hS.2.2 hdg hlocks
theorem s_call {y : MethodName} {bytes : ByteArray} {maxL d n index nL : Nat} {ret : Option FieldType} {own : String} {As st0 : List Value} {r1 : Int32} (F : CallFix p m c cc nL s args GT own) (hM : sM l y bytes maxL ret d As r1)
    (cw : CallB R s args own index y bytes maxL ret (.code y bytes maxL ret :: GT) (rmD d) 0 0 n ∧ (Cond.static y).before args s = true) (hn : As.length = n) (hsize : ls.size = nL) (hst : st0 = As.reverse ++ rest) (hr : (rest.map fun v => v.category).sum ≤ 8) (hdg : decode cc pc = .ok (.invokestatic index, 3)) (hf : cells ≤ R.cells ∧ slots ≤ R.slots) (hS : va_S A H0 H locs)
    (kk : ∀ (H1 : Heap) (locs1 : List Loc), H.size ≤ H1.size → (∀ q : Nat, q < H.size → H1[q]? = H[q]?) → va_S A H0 H1 locs1 → W p l e R s m args below meth c H1 locs1 cells slots Q (F0 m (pc + 3) ls (.int r1 :: rest))) : W p l e R s m args below meth c H locs cells slots Q (F0 m pc ls st0) := by
  subst hst
  refine va_calli (va_runS (As := As) (rest := rest) F hM cw ⟨fun a U g mk q => ?_, fun U hU hW => ⟨rfl, trivial⟩⟩ rfl hn hsize rfl (lv_room hr) hdg ⟨hf.1, hf.2⟩) hS (fun q _ h => h.elim) (fun q h => h.elim) (fun r u t H1 locs1 ht hvm hp hB hz1 hk1 hS1 => ?_)
  · exact ⟨q.1, trivial⟩
  · subst hp
    exact kk H1 locs1 hz1 (fun q hq => hk1 q hq (fun h => h)) hS1
theorem s_cs {y : MethodName} {bytes : ByteArray} {maxL d n index nL : Nat} {ret : Option FieldType} {own : String} {As st0 : List Value} {r1 : Int32} (F : CallFix p m c cc nL s args GT own) (hM : sM l y bytes maxL ret d As r1)
    (cw : CallB R s args own index y bytes maxL ret (.code y bytes maxL ret :: GT) (rmD d) 0 0 n ∧ (Cond.static y).before args s = true) (hw : va_S (fun _ => False) s.heap H locs) (hn : As.length = n) (hsize : ls.size = nL) (hst : st0 = As.reverse ++ rest) (hr : (rest.map fun v => v.category).sum ≤ 8) (hdg : decode cc pc = .ok (.invokestatic index, 3)) (hf : cells ≤ R.cells ∧ slots ≤ R.slots)
    (kk : ∀ (H1 : Heap) (locs1 : List Loc), va_S (fun _ => False) s.heap H1 locs1 → W p l e R s m args below meth c H1 locs1 cells slots Q (F0 m (pc + 3) ls (.int r1 :: rest))) : W p l e R s m args below meth c H locs cells slots Q (F0 m pc ls st0) :=
  s_call F hM cw hn hsize hst hr hdg hf hw (fun H1 locs1 _ _ hS => kk H1 locs1 hS)
end RowsA
