def lA (s : State) : Nat → Prop := fun a => s.heap.size ≤ a
def LW (D : va_G) (ox om : Nat → Nat) (cA cB : ClassId) (q : Nat) (cL : ClassId) (z : Nat → Int64) (s : State) (S M : SX) (H : Heap) (locs : List Loc) : Prop :=
  hW D ox cA q cL z (lA s) s s.heap S H locs ∧ mW D om cB (lA s) s s.heap M H locs ∧ (∀ j, j < 6 → q ≠ om j) ∧ ∀ i j, i < 7 → j < 6 → ox i ≠ om j
theorem xw_D {A : Nat → Prop} {o : Nat → Nat} {cA : ClassId} {S S' : SX} (h : va_D A (xw o cA S)) : va_D A (xw o cA S') := by
  refine ⟨fun i j p q hp hq e => ?_, fun i q hq => ?_⟩
  · obtain ⟨e1, p1⟩ := xw_is (o := o) (cA := cA) (S := S) (xw_at hp).1
    obtain ⟨e2, p2⟩ := xw_is (o := o) (cA := cA) (S := S) (xw_at hq).1
    exact h.1 i j _ _ p1 p2 (by rw [← (xw_at hp).2, ← (xw_at hq).2]; exact e)
  · obtain ⟨e1, p1⟩ := xw_is (o := o) (cA := cA) (S := S) (xw_at hq).1
    rw [(xw_at hq).2]
    exact h.2 i _ p1
theorem lg_self (x : Int64) : lg_cmp x x = 0 := by
  unfold lg_cmp
  rw [if_neg (by rw [gt_iff_lt, Int64.lt_iff_toInt_lt]; omega), if_pos rfl]
theorem l_gt {L i : Nat} (hL : L ≤ 2048) (hi : i ≤ 4096) : nI L - 4 < nI i ↔ L < i + 4 := by
  have e : (nI L - 4).toInt = (L : Int) - 4 := pk_sub_toInt (a := L) (b := 4) (by omega) (by decide)
  rw [Int32.lt_iff_toInt_lt, e, nI_toInt (by omega)]
  omega
section LawRows
variable {p : Program} {l : Launch} {e : Env} {R : Room} {s : State} {m : MethodId} {args : Array Value} {below : List Frame} {meth : Method} {c : Code} {H : Heap} {locs : List Loc} {cells slots : Nat} {Q : State → Prop}
variable {cc : ByteArray} {pc : Nat} {ls : Array Slot} {rest : List Value} {D : va_G} {A : Nat → Prop} {H0 : Heap} {o : Nat → Nat} {cA : ClassId} {S : SX}
variable {ox om : Nat → Nat} {cB cL : ClassId} {q sa sb sc : Nat} {z : Nat → Int64} {M : SX}
theorem l_mk {H1 : Heap} {locs1 : List Loc} (hw : LW D ox om cA cB q cL z s S M H locs) (hk : ∀ a : Nat, a < H.size → ¬ hA ox q H.size a → H1[a]? = H[a]?) (hS : va_S (lA s) s.heap H1 locs1) : mW D om cB (lA s) s s.heap M H1 locs1 := by
  obtain ⟨-, ⟨hP, hD, -, hK, hA9⟩, h1, h2⟩ := hw
  refine ⟨hP.kept (fun k x hx => ?_), hD, hS, hK, hA9⟩
  have hlt := (hP k x hx).lt
  refine hk x.1 hlt (fun h => ?_)
  obtain ⟨g1, g2⟩ := mw_at hx
  rcases h with (⟨i, hi, e⟩ | h) | h
  · exact h2 i k hi g1 (e.symm.trans g2)
  · exact absurd hlt (Nat.not_lt.mpr h)
  · exact h1 k g1 (h.symm.trans g2)
theorem l_xi {y : MethodName} {bytes : ByteArray} {maxL d n index nL : Nat} {ret : Option FieldType} {As st0 : List Value} {r1 : Int32} {S1 : SX} (F : CallFix p m c cc nL s args GT RL) (hM : xMi l D ox cA y bytes maxL ret d (.ref (ox 0) :: As) S S1 r1)
    (cw : CallW R s args RL RX0 index y bytes maxL ret (.code y bytes maxL ret :: GT) (rmD d) 0 0 n) (hw : LW D ox om cA cB q cL z s S M H locs) (hn : As.length = n) (hsize : ls.size = nL) (hst : st0 = As.reverse ++ .ref (ox 0) :: rest) (hr : (rest.map fun v => v.category).sum ≤ 8) (hdg : decode cc pc = .ok (.invokevirtual index, 3)) (hf : cells ≤ R.cells ∧ slots ≤ R.slots)
    (kk : ∀ (H1 : Heap) (locs1 : List Loc), LW D ox om cA cB q cL z s S1 M H1 locs1 → W p l e R s m args below meth c H1 locs1 cells slots Q (F0 m (pc + 3) ls (.int r1 :: rest))) : W p l e R s m args below meth c H locs cells slots Q (F0 m pc ls st0) :=
  x_ciF F hM cw hw.1.1 hn hsize hst hr hdg hf (fun H1 locs1 h _ hk => kk H1 locs1 ⟨⟨h, h_keep hw.1 hk, hw.1.2.2⟩, l_mk hw (fun a h1 h2 => hk a h1 (fun h3 => h2 (Or.inl h3))) h.2.2.1, hw.2.2⟩)
theorem l_mi {y : MethodName} {bytes : ByteArray} {maxL d n index nL : Nat} {ret : Option FieldType} {As st0 : List Value} {r1 : Int32} {M1 : SX} (F : CallFix p m c cc nL s args GT RL) (hM : mMi l D om cB y bytes maxL ret d (.ref (om 0) :: As) M M1 r1)
    (cw : CallW R s args RL RX1 index y bytes maxL ret (.code y bytes maxL ret :: GT) (rmD d) 0 0 n) (hw : LW D ox om cA cB q cL z s S M H locs) (hn : As.length = n) (hsize : ls.size = nL) (hst : st0 = As.reverse ++ .ref (om 0) :: rest) (hr : (rest.map fun v => v.category).sum ≤ 8) (hdg : decode cc pc = .ok (.invokevirtual index, 3)) (hf : cells ≤ R.cells ∧ slots ≤ R.slots)
    (kk : ∀ (H1 : Heap) (locs1 : List Loc), LW D ox om cA cB q cL z s S M1 H1 locs1 → W p l e R s m args below meth c H1 locs1 cells slots Q (F0 m (pc + 3) ls (.int r1 :: rest))) : W p l e R s m args below meth c H locs cells slots Q (F0 m pc ls st0) := by
  refine m_ciF F hM cw hw.2.1 hn hsize hst hr hdg hf (fun H1 locs1 h _ hk => kk H1 locs1 ⟨⟨⟨?_, hw.1.1.2.1, h.2.2.1, hw.1.1.2.2.2⟩, ?_, hw.1.2.2⟩, h, hw.2.2⟩)
  · refine hw.1.1.1.kept (fun k x hx => ?_)
    have hlt := (hw.1.1.1 k x hx).lt
    refine hk x.1 hlt (fun h3 => ?_)
    obtain ⟨g1, g2⟩ := xw_at hx
    rcases h3 with ⟨j, hj, e⟩ | h3
    · exact hw.2.2.2 k j g1 hj (g2.symm.trans e)
    · exact absurd hlt (Nat.not_lt.mpr h3)
  · refine hw.1.2.1.kept (fun k x hx => ?_)
    have hlt := (hw.1.2.1 k x hx).lt
    have hk0 : k < 1 := (List.getElem?_eq_some_iff.mp hx).1
    obtain rfl : k = 0 := by omega
    have h2 := Option.some.inj hx
    refine hk x.1 hlt (fun h3 => ?_)
    rw [← h2] at h3 hlt
    rcases h3 with ⟨j, hj, e⟩ | h3
    · exact hw.2.2.1 j hj e
    · exact absurd hlt (Nat.not_lt.mpr h3)
theorem l_h {y : MethodName} {bytes : ByteArray} {maxL n index nL : Nat} {hh : List (Nat × Nat × Nat × Nat)} {As st0 : List Value} {r1 : Int32} {S1 : SX} {z1 : Nat → Int64} (F : CallFix p m c cc nL s args GT RL) (hM9 : hM l D ox cA q cL sa sb sc y bytes maxL hh As S z S1 z1 r1)
    (cw : vx_CSW R s args RL index y bytes maxL (some .int) hh (.codeWith y bytes maxL (some .int) hh :: GT) rmH 1 6 n) (hw : LW D ox om cA cB q cL z s S M H locs) (hE : EN (lA s) sa sb sc s s.heap) (hN : va_Nc "java/lang/IllegalStateException" "java/lang/IllegalArgumentException" s) (hn : As.length = n) (hsize : ls.size = nL) (hst : st0 = As.reverse ++ rest) (hr : (rest.map fun v => v.category).sum ≤ 8) (hdg : decode cc pc = .ok (.invokestatic index, 3)) (hf : cells + 1 ≤ R.cells ∧ slots + 6 ≤ R.slots)
    (kk : ∀ (H1 : Heap) (locs1 : List Loc), LW D ox om cA cB q cL z1 s S1 M H1 locs1 → W p l e R s m args below meth c H1 locs1 (cells + 1) (slots + 6) Q (F0 m (pc + 3) ls (.int r1 :: rest))) : W p l e R s m args below meth c H locs cells slots Q (F0 m pc ls st0) := by
  subst hst
  obtain ⟨hP, hD, hS, hK, hA9⟩ := id hw.1.1
  have hfr : ∀ a, hA ox q H.size a → lA s a := fun a h => by
    rcases h with h | h
    · exact x_free hw.1.1 a h
    · rw [h]
      exact hw.1.2.2.1
  refine va_calli (vx_runSW (As := As) (rest := rest) F (hM9 H.size) cw ⟨fun a U g mk h => ?_, fun U hU hW9 => ⟨rfl, ⟨by rw [hU], by rw [hU]; exact hP, va_K.moved hW9.alike hK, hD.weaken (fun _ _ _ _ => trivial)⟩, by rw [hU]; exact hw.1.2.1, va_K.moved hW9.alike hw.1.2.2.2.2, hw.1.2.2.2.1, by rw [hU]; exact ((hE.kept hS.2.1).narrow hfr).warm hW9, hN.moved hW9.alike⟩⟩ rfl hn hsize rfl (lv_room hr) hdg hf) hS (fun a _ h => hfr a h) hfr (fun r u t H1 locs1 ht hvm hp hB hz1 hk1 hS1 => ?_)
  · obtain ⟨q0, ⟨q1, qP, qK, qD⟩, g1, g2, g3, g4, g5⟩ := h
    exact ⟨q0, ⟨q1, qP, va_K.moved (u := U) (U := U.calling g mk a) (Vm.Alike.refl U.vm) qK, qD⟩, g1, va_K.moved (u := U) (U := U.calling g mk a) (Vm.Alike.refl U.vm) g2, g3, g4.same (U := U.calling g mk a) rfl, g5.moved (U := U.calling g mk a) (Vm.Alike.refl U.vm)⟩
  · subst hp
    obtain ⟨hP1, hP2⟩ := hB
    rw [ht] at hP1 hP2
    exact kk H1 locs1 ⟨⟨⟨hP1, xw_D hD, hS1, hK, hA9⟩, hP2, hw.1.2.2⟩, l_mk hw hk1 hS1, hw.2.2⟩
theorem l_sld {b L k : Nat} {xs : Nat → Int32} (hx : p.tables.exec = Jvm.exec) (hb : c.code = cc) (hX : va_X b L xs s s.heap) (hbl : b < s.heap.size) (hw : LW D ox om cA cB q cL z s S M H locs) (hk : k < L) (hL : L ≤ 2048) (hdg : decode cc pc = .ok (.iaload, 1))
    (kk : W p l e R s m args below meth c H locs cells slots Q (F0 m (pc + 1) ls (.int (xs k) :: rest))) : W p l e R s m args below meth c H locs cells slots Q (F0 m pc ls (.int (nI k) :: .ref b :: rest)) := by
  refine va_sld hx hb hX hbl (show ¬ lA s b from Nat.not_le.mpr hbl) hw.1.1.2.2.1 (vp_in_nI hk (by omega)) hdg ?_
  rw [nI_clamp (by omega)]
  exact kk
theorem l_len {b L : Nat} {xs : Nat → Int32} (hx : p.tables.exec = Jvm.exec) (hb : c.code = cc) (hX : va_X b L xs s s.heap) (hbl : b < s.heap.size) (hw : LW D ox om cA cB q cL z s S M H locs) (hdg : decode cc pc = .ok (.arraylength, 1))
    (kk : W p l e R s m args below meth c H locs cells slots Q (F0 m (pc + 1) ls (.int (nI L) :: rest))) : W p l e R s m args below meth c H locs cells slots Q (F0 m pc ls (.ref b :: rest)) :=
  va_slen hx hb hX hbl (show ¬ lA s b from Nat.not_le.mpr hbl) hw.1.1.2.2.1 hdg kk
theorem l_lald (hx : p.tables.exec = Jvm.exec) (hb : c.code = cc) (hw : LW D ox om cA cB q cL z s S M H locs) (hdg : decode cc pc = .ok (.laload, 1))
    (kk : W p l e R s m args below meth c H locs cells slots Q (F0 m (pc + 1) ls (.long (z 0) :: rest))) : W p l e R s m args below meth c H locs cells slots Q (F0 m pc ls (.int 0 :: .ref q :: rest)) :=
  va_lald hx hb hw.1.2.2.2.2 hw.1.2.1 0 0 rfl rfl (vp_in_nI (n := 0) (N := 1) (by decide) (by decide)) hdg kk
end LawRows
theorem l_EN {s : State} {b : Nat} (hts : ∀ w ∈ lw_tbl, w.before #[Value.ref b] s = true) (hg : (Jvm.Cond.and given_1 narrow_1).before #[Value.ref b] s = true) : ∃ sa sb sc : Nat, EN (lA s) sa sb sc s s.heap ∧ va_Nc "java/lang/IllegalStateException" "java/lang/IllegalArgumentException" s := by
  have hs := flat_of_before _ hg
  have hnA : ∀ a : Nat, a < s.heap.size → ¬ lA s a := fun a h => Nat.not_le.mpr h
  have st : ∀ (k : Nat) (tx : String), (Cond.stringRef RX0 k tx).before #[Value.ref b] s = true → (Cond.exactly (.string RX0 k) "java/lang/String").before #[Value.ref b] s = true → ∃ a, vk_R RX0 k tx a s := fun k tx h1 h2 => by
    obtain ⟨a, c9, cA, kA, q1, -⟩ := Cond.exactly_spec (args := #[Value.ref b]) (first := s) (o := none) (s := s) (idx := []) (t := .string RX0 k) (cls := "java/lang/String") h2
    exact ⟨a, vk_R.of h1 q1⟩
  obtain ⟨sa, h3⟩ := st 45 "no such processor or address" (hts _ (by decide +kernel)) (hs _ (by decide +kernel))
  obtain ⟨sb, h4⟩ := st 79 "no such processor or block" (hts _ (by decide +kernel)) (hs _ (by decide +kernel))
  obtain ⟨sc, h5⟩ := st 87 "the cache does not hold the block" (hts _ (by decide +kernel)) (hs _ (by decide +kernel))
  refine ⟨sa, sb, sc, ⟨vx_Zqof (hts _ (by decide +kernel)) (hts _ (by decide +kernel)) (hs _ (by decide +kernel)) hnA, vx_Zqof (hts _ (by decide +kernel)) (hts _ (by decide +kernel)) (hs _ (by decide +kernel)) hnA, h3, h4, h5, va_Nw.of rfl (hts (.castable "java/lang/IllegalArgumentException" "java/lang/IllegalArgumentException") (by decide +kernel)), va_Nw.of rfl (hts (.castable "java/lang/IllegalStateException" "java/lang/IllegalStateException") (by decide +kernel)), va_Nw.of rfl (hts (.declares (⟨"java/lang/RuntimeException", "<init>", "(Ljava/lang/String;)V"⟩ : MethodName)) (by decide +kernel)), va_Nw.of rfl (hts (.declares (⟨"java/lang/Exception", "<init>", "(Ljava/lang/String;)V"⟩ : MethodName)) (by decide +kernel)), va_Nw.of rfl (hts (.declares (⟨"java/lang/Throwable", "<init>", "(Ljava/lang/String;)V"⟩ : MethodName)) (by decide +kernel))⟩, va_Nc.of (hs _ (by decide +kernel))⟩
