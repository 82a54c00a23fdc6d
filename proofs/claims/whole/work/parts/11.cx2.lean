def fA (q sz : Nat) : Nat → Prop := fun a => a = q ∨ sz ≤ a
def fPre (D : va_G) (q : Nat) (cA : ClassId) (n : Nat) (f : Nat → Int32) (sz : Nat) (U : State) : Prop := U.heap.size = sz ∧ va_P D vwCl [(q, .inl (cA, n, .inl f))] U.heap ∧ va_K D vwCl [(cA, .int)] U
def fQ (D : va_G) (q : Nat) (cA : ClassId) (n : Nat) (v : Int32) (sz : Nat) : Array Value → State → Outcome → State → Prop := va_Qv (fun (_ : Unit) => True) (fun _ t => va_P D vwCl [(q, .inl (cA, n, .inl (fun _ => v)))] t.heap) (fA q sz)
set_option maxRecDepth 100000 in
set_option maxHeartbeats 4000000 in
theorem c_fill (l : Launch) (D : va_G) (q : Nat) (cA : ClassId) (n : Nat) (f : Nat → Int32) (v : Int32) (hn : n < 1000) (sz : Nat) : Met l yJ7_fill (.code yJ7_fill cJ7_fill 4 none :: GT) (rmD 0) (va_Pc [.ref q, .int v] (fPre D q cA n f sz)) (fQ D q cA n v sz) 0 0 (fA q sz) := by
  refine Met.ofW (cc := cJ7_fill) (maxL := 4) (ret := none) (by decide) rfl ?_
  intro P0 e s m args below meth c s₁ B hml hv
  obtain ⟨rfl, hsz, hP, hK⟩ := hv
  subst hsz
  have hx := B.exec
  have hb := B.bytes
  have hr := B.returns
  have hlocks := B.notSynchronized
  have hl := lv_entry [Value.ref q, .int v] (n := 4) (Nat.le_of_ble_eq_true rfl)
  rw [lg_entry_eq]
  generalize (lg_sl [Value.ref q, .int v] ++ List.replicate (4 - (lg_sl [Value.ref q, .int v]).length) Slot.unset).toArray = ls at hl ⊢
  have hl : lv_has ls 4 [(0, .ref q), (1, .int v)] := hl
  have hD : va_D (fA q s.heap.size) [(q, .inl (cA, n, .inl f))] := ⟨fun i j p q hp hq _ => by
    have h1 := (List.getElem?_eq_some_iff.mp hp).1
    have h2 := (List.getElem?_eq_some_iff.mp hq).1
    simp at h1 h2
    omega, fun k p hk => by
    have h1 := (List.getElem?_eq_some_iff.mp hk).1
    simp at h1
    subst h1
    have h2 := Option.some.inj hk
    rw [← h2]
    exact Or.inl rfl⟩
  have hS : va_S (fA q s.heap.size) s.heap s.heap [] := va_S.rf
  have loop : ∀ (t k : Nat), t + k = n → ∀ (g : Nat → Int32) (H : Heap) (locs : List Loc) (ls : Array Slot), lv_has ls 4 [(2, .int (nI k)), (3, .int (nI n)), (0, .ref q), (1, .int v)] → va_P D vwCl [(q, .inl (cA, n, .inl g))] H → va_D (fA q s.heap.size) [(q, .inl (cA, n, .inl g))] → va_S (fA q s.heap.size) s.heap H locs → (∀ j, j < k → g j = v) → W P0 l e (rmD 0) s m [Value.ref q, .int v].toArray below meth c H locs 0 0 (MQ below (fQ D q cA n v s.heap.size) [Value.ref q, .int v].toArray s 0 0 (fA q s.heap.size)) (F0 m 5 ls []) := by
    intro t
    induction t with
    | zero =>
      intro k hk g H locs ls hl hP hD hS hg
      obtain rfl : k = n := by omega
      refine lv_iload_n hx hb dJ7_fill_5 rfl (lv_at hl 0 rfl) ?_
      refine lv_iload_n hx hb dJ7_fill_6 rfl (lv_at hl 1 rfl) ?_
      refine lv_icmp_ge (tgt := 20) hx hb dJ7_fill_7 (by decide) (fun _ => ?_) (fun h9 => absurd (nI_le (Nat.le_refl k) (by omega)) h9)
      have hc : H[q]? = some (vp_cell cA (k, .inl g)) := hP 0 _ rfl
      rw [arr_congr (g := fun _ => v) hg] at hc
      have hP2 : va_P D vwCl [(q, .inl (cA, k, .inl (fun _ => v)))] H := fun i p hp => by
        have h1 := (List.getElem?_eq_some_iff.mp hp).1
        simp at h1
        subst h1
        have h2 := Option.some.inj hp
        rw [← h2]
        exact hc
      exact W.vret hx hb hr (fun t ht hW => ⟨⟨(), rfl, trivial, show va_P D vwCl [(q, .inl (cA, k, .inl (fun _ => v)))] t.heap by rw [ht]; exact hP2⟩, hS.F ht⟩) hS.2.2 dJ7_fill_20
    | succ t ih =>
      intro k hk g H locs ls hl hP hD hS hg
      refine lv_iload_n hx hb dJ7_fill_5 rfl (lv_at hl 0 rfl) ?_
      refine lv_iload_n hx hb dJ7_fill_6 rfl (lv_at hl 1 rfl) ?_
      refine lv_icmp_ge (tgt := 20) hx hb dJ7_fill_7 (by decide) (fun h9 => absurd h9 (nI_ge (a := k) (b := n) (by omega) (by omega))) (fun _ => ?_)
      refine lv_aload_n hx hb dJ7_fill_10 rfl (lv_at hl 2 rfl) ?_
      refine lv_iload_n hx hb dJ7_fill_11 rfl (lv_at hl 0 rfl) ?_
      refine lv_iload_n hx hb dJ7_fill_12 rfl (lv_at hl 3 rfl) ?_
      refine va_iast hx hb hK hP hD hS 0 0 rfl rfl (vp_in_nI (show k < n by omega) (by omega)) dJ7_fill_13 (fun H locs hP hD hS => ?_)
      rw [nI_clamp (show k < 2 ^ 31 by omega)] at hP hD
      refine lv_iinc (k := 0) (v := nI (k + 1)) (lv' := [(2, .int (nI (k + 1))), (3, .int (nI n)), (0, .ref q), (1, .int v)]) hx hb dJ7_fill_14 hl rfl (lw_inc k 1) (by decide) rfl (fun ls hl => ?_)
      refine lv_goto (tgt := 5) hx hb dJ7_fill_17 (by decide) ?_
      exact ih (k + 1) (by omega) (upd g k v) H locs ls hl hP hD hS (fun j hj => by
        by_cases h6 : j = k
        · rw [h6, pk_us]
        · rw [pk_un h6]
          exact hg j (by omega))
  refine lv_iconst (v := 0) hx hb dJ7_fill_0 (by decide) ?_
  refine lv_istore_n (lv' := [(2, .int 0), (0, .ref q), (1, .int v)]) hx hb dJ7_fill_1 rfl hl (by decide) rfl (fun ls hl => ?_)
  refine lv_aload_n hx hb dJ7_fill_2 rfl (lv_at hl 1 rfl) ?_
  refine va_alen hx hb hK hP 0 0 rfl rfl (v := nI n) rfl dJ7_fill_3 ?_
  refine lv_istore_n (lv' := [(3, .int (nI n)), (2, .int 0), (0, .ref q), (1, .int v)]) hx hb dJ7_fill_4 rfl hl (by decide) rfl (fun ls hl => ?_)
  exact loop n 0 rfl f s.heap [] ls (lv_sub hl [1, 0, 2, 3] rfl) hP hD hS (fun j hj => absurd hj (Nat.not_lt_zero j))
theorem cw_fill {R : Room} {s : State} {args : Array Value} (hts : ∀ w ∈ GT, w.before args s = true) (hR : 0 + 1 ≤ R.frames ∧ 8 + (4 + 11) + 40 * 0 ≤ R.locals) : CallB R s args RX0 102 yJ7_fill cJ7_fill 4 none ((.code yJ7_fill cJ7_fill 4 none : Cond) :: GT) (rmD 0) 0 0 2 ∧ (Cond.static yJ7_fill).before args s = true :=
  va_cwS 2 hts (show GoodIn GT (va_wsS RX0 102 yJ7_fill ((.code yJ7_fill cJ7_fill 4 none : Cond) :: GT)) from lw_gin (lw_gin (lw_gin (lw_gin lw_self gw_23) gw_2) gw_22) gw_21) rfl rfl rfl (by decide +kernel) hR
section Fill
variable {p : Program} {l : Launch} {e : Env} {R : Room} {s : State} {m : MethodId} {args : Array Value} {below : List Frame} {meth : Method} {c : Code} {H : Heap} {locs : List Loc} {cells slots : Nat} {Q : State → Prop}
variable {cc : ByteArray} {pc : Nat} {ls : Array Slot} {rest : List Value} {D : va_G} {A : Nat → Prop} {H0 : Heap} {o : Nat → Nat} {cA : ClassId} {S : SX}
theorem x_fi0 {v : Int32} {nL : Nat} (F : CallFix p m c cc nL s args GT RX0) (cw : CallB R s args RX0 102 yJ7_fill cJ7_fill 4 none ((.code yJ7_fill cJ7_fill 4 none : Cond) :: GT) (rmD 0) 0 0 2 ∧ (Cond.static yJ7_fill).before args s = true) (hw : xW D o cA A s H0 S H locs) (hsize : ls.size = nL) (hdg : decode cc pc = .ok (.invokestatic 102, 3)) (hf : cells ≤ R.cells ∧ slots ≤ R.slots)
    (kk : ∀ (H1 : Heap) (locs1 : List Loc), xW D o cA A s H0 (zA S 0 (fun _ => v)) H1 locs1 → W p l e R s m args below meth c H1 locs1 cells slots Q (F0 m (pc + 3) ls [])) : W p l e R s m args below meth c H locs cells slots Q (F0 m pc ls [.int v, .ref (o 1)]) := by
  obtain ⟨hP, hD, hS, hK, hA⟩ := id hw
  have hfr : ∀ q, fA (o 1) H.size q → A q := fun q h => by
    rcases h with rfl | h
    · exact hD.2 1 _ (show (xw o cA S)[1]? = some (o 1, _) from rfl)
    · exact hA q (Nat.le_trans hS.1 h)
  refine va_callv (va_runS (As := [.ref (o 1), .int v]) (rest := []) F (c_fill l D (o 1) cA 8 (S.1 0) v (by decide) H.size) cw ⟨fun a U g mk q => ?_, fun U hU hW => ⟨rfl, by rw [hU], by rw [hU]; exact hP.sub [1] rfl, va_K.moved hW.alike hK⟩⟩ rfl rfl hsize rfl (lv_room (Nat.le_of_ble_eq_true rfl)) hdg ⟨hf.1, hf.2⟩) hS (fun q _ h => hfr q h) hfr (fun u t H1 locs1 ht hvm hp hB hz1 hk1 hS1 => ?_)
  · obtain ⟨q0, q1, qP, qK⟩ := q
    exact ⟨q0, q1, qP, va_K.moved (u := U) (U := U.calling g mk a) (Vm.Alike.refl U.vm) qK⟩
  · rw [ht] at hB
    refine kk H1 locs1 (x_r0 hw (hB 0 _ rfl) (fun q hq hne => hk1 q hq (fun h => ?_)) hS1)
    rcases h with h | h
    · exact hne h
    · exact absurd hq (Nat.not_lt.mpr h)
theorem x_fi3 {v : Int32} {nL : Nat} (F : CallFix p m c cc nL s args GT RX0) (cw : CallB R s args RX0 102 yJ7_fill cJ7_fill 4 none ((.code yJ7_fill cJ7_fill 4 none : Cond) :: GT) (rmD 0) 0 0 2 ∧ (Cond.static yJ7_fill).before args s = true) (hw : xW D o cA A s H0 S H locs) (hsize : ls.size = nL) (hdg : decode cc pc = .ok (.invokestatic 102, 3)) (hf : cells ≤ R.cells ∧ slots ≤ R.slots)
    (kk : ∀ (H1 : Heap) (locs1 : List Loc), xW D o cA A s H0 (zA S 3 (fun _ => v)) H1 locs1 → W p l e R s m args below meth c H1 locs1 cells slots Q (F0 m (pc + 3) ls [])) : W p l e R s m args below meth c H locs cells slots Q (F0 m pc ls [.int v, .ref (o 4)]) := by
  obtain ⟨hP, hD, hS, hK, hA⟩ := id hw
  have hfr : ∀ q, fA (o 4) H.size q → A q := fun q h => by
    rcases h with rfl | h
    · exact hD.2 4 _ (show (xw o cA S)[4]? = some (o 4, _) from rfl)
    · exact hA q (Nat.le_trans hS.1 h)
  refine va_callv (va_runS (As := [.ref (o 4), .int v]) (rest := []) F (c_fill l D (o 4) cA 32 (S.1 3) v (by decide) H.size) cw ⟨fun a U g mk q => ?_, fun U hU hW => ⟨rfl, by rw [hU], by rw [hU]; exact hP.sub [4] rfl, va_K.moved hW.alike hK⟩⟩ rfl rfl hsize rfl (lv_room (Nat.le_of_ble_eq_true rfl)) hdg ⟨hf.1, hf.2⟩) hS (fun q _ h => hfr q h) hfr (fun u t H1 locs1 ht hvm hp hB hz1 hk1 hS1 => ?_)
  · obtain ⟨q0, q1, qP, qK⟩ := q
    exact ⟨q0, q1, qP, va_K.moved (u := U) (U := U.calling g mk a) (Vm.Alike.refl U.vm) qK⟩
  · rw [ht] at hB
    refine kk H1 locs1 (x_r3 hw (hB 0 _ rfl) (fun q hq hne => hk1 q hq (fun h => ?_)) hS1)
    rcases h with h | h
    · exact hne h
    · exact absurd hq (Nat.not_lt.mpr h)
theorem x_fi4 {v : Int32} {nL : Nat} (F : CallFix p m c cc nL s args GT RX0) (cw : CallB R s args RX0 102 yJ7_fill cJ7_fill 4 none ((.code yJ7_fill cJ7_fill 4 none : Cond) :: GT) (rmD 0) 0 0 2 ∧ (Cond.static yJ7_fill).before args s = true) (hw : xW D o cA A s H0 S H locs) (hsize : ls.size = nL) (hdg : decode cc pc = .ok (.invokestatic 102, 3)) (hf : cells ≤ R.cells ∧ slots ≤ R.slots)
    (kk : ∀ (H1 : Heap) (locs1 : List Loc), xW D o cA A s H0 (zA S 4 (fun _ => v)) H1 locs1 → W p l e R s m args below meth c H1 locs1 cells slots Q (F0 m (pc + 3) ls [])) : W p l e R s m args below meth c H locs cells slots Q (F0 m pc ls [.int v, .ref (o 5)]) := by
  obtain ⟨hP, hD, hS, hK, hA⟩ := id hw
  have hfr : ∀ q, fA (o 5) H.size q → A q := fun q h => by
    rcases h with rfl | h
    · exact hD.2 5 _ (show (xw o cA S)[5]? = some (o 5, _) from rfl)
    · exact hA q (Nat.le_trans hS.1 h)
  refine va_callv (va_runS (As := [.ref (o 5), .int v]) (rest := []) F (c_fill l D (o 5) cA 5 (S.1 4) v (by decide) H.size) cw ⟨fun a U g mk q => ?_, fun U hU hW => ⟨rfl, by rw [hU], by rw [hU]; exact hP.sub [5] rfl, va_K.moved hW.alike hK⟩⟩ rfl rfl hsize rfl (lv_room (Nat.le_of_ble_eq_true rfl)) hdg ⟨hf.1, hf.2⟩) hS (fun q _ h => hfr q h) hfr (fun u t H1 locs1 ht hvm hp hB hz1 hk1 hS1 => ?_)
  · obtain ⟨q0, q1, qP, qK⟩ := q
    exact ⟨q0, q1, qP, va_K.moved (u := U) (U := U.calling g mk a) (Vm.Alike.refl U.vm) qK⟩
  · rw [ht] at hB
    refine kk H1 locs1 (x_r4 hw (hB 0 _ rfl) (fun q hq hne => hk1 q hq (fun h => ?_)) hS1)
    rcases h with h | h
    · exact hne h
    · exact absurd hq (Nat.not_lt.mpr h)
theorem x_fi5 {v : Int32} {nL : Nat} (F : CallFix p m c cc nL s args GT RX0) (cw : CallB R s args RX0 102 yJ7_fill cJ7_fill 4 none ((.code yJ7_fill cJ7_fill 4 none : Cond) :: GT) (rmD 0) 0 0 2 ∧ (Cond.static yJ7_fill).before args s = true) (hw : xW D o cA A s H0 S H locs) (hsize : ls.size = nL) (hdg : decode cc pc = .ok (.invokestatic 102, 3)) (hf : cells ≤ R.cells ∧ slots ≤ R.slots)
    (kk : ∀ (H1 : Heap) (locs1 : List Loc), xW D o cA A s H0 (zA S 5 (fun _ => v)) H1 locs1 → W p l e R s m args below meth c H1 locs1 cells slots Q (F0 m (pc + 3) ls [])) : W p l e R s m args below meth c H locs cells slots Q (F0 m pc ls [.int v, .ref (o 6)]) := by
  obtain ⟨hP, hD, hS, hK, hA⟩ := id hw
  have hfr : ∀ q, fA (o 6) H.size q → A q := fun q h => by
    rcases h with rfl | h
    · exact hD.2 6 _ (show (xw o cA S)[6]? = some (o 6, _) from rfl)
    · exact hA q (Nat.le_trans hS.1 h)
  refine va_callv (va_runS (As := [.ref (o 6), .int v]) (rest := []) F (c_fill l D (o 6) cA 8 (S.1 5) v (by decide) H.size) cw ⟨fun a U g mk q => ?_, fun U hU hW => ⟨rfl, by rw [hU], by rw [hU]; exact hP.sub [6] rfl, va_K.moved hW.alike hK⟩⟩ rfl rfl hsize rfl (lv_room (Nat.le_of_ble_eq_true rfl)) hdg ⟨hf.1, hf.2⟩) hS (fun q _ h => hfr q h) hfr (fun u t H1 locs1 ht hvm hp hB hz1 hk1 hS1 => ?_)
  · obtain ⟨q0, q1, qP, qK⟩ := q
    exact ⟨q0, q1, qP, va_K.moved (u := U) (U := U.calling g mk a) (Vm.Alike.refl U.vm) qK⟩
  · rw [ht] at hB
    refine kk H1 locs1 (x_r5 hw (hB 0 _ rfl) (fun q hq hne => hk1 q hq (fun h => ?_)) hS1)
    rcases h with h | h
    · exact hne h
    · exact absurd hq (Nat.not_lt.mpr h)
end Fill
set_option maxRecDepth 100000 in
set_option maxHeartbeats 4000000 in
theorem cx_startOver (l : Launch) (D : va_G) (o : Nat → Nat) (cA : ClassId) (S : SX) (x : Int32)  : xMv l D o cA yX0_startOver cX0_startOver 2 1 [.ref (o 0), .int x] S (xSo S x) := by
  intro sz
  refine x_met (by decide) rfl (Nat.le_of_ble_eq_true rfl) ?_
  intro P0 e s m below meth c ls hsz hx hb hml hr hlocks hown hts hl hw
  subst hsz
  have hl : lv_has ls 2 [(0, .ref (o 0)), (1, .int x)] := hl
  refine lv_aload_n hx hb dX0_startOver_0 rfl (lv_at hl 0 rfl) ?_
  refine x_g0 hx hb hts hown hw dX0_startOver_1 ?_
  refine lv_iconst (v := 0) hx hb dX0_startOver_4 (by decide) ?_
  refine x_fi0 (v := 0) ⟨hx, hb, hml, hown, hts⟩ (cw_fill hts ⟨by decide, by decide⟩) hw hl.1 dX0_startOver_5 ⟨Nat.zero_le _, Nat.zero_le _⟩ (fun H locs hw => ?_)
  refine lv_aload_n hx hb dX0_startOver_8 rfl (lv_at hl 0 rfl) ?_
  refine x_g3 hx hb hts hown hw dX0_startOver_9 ?_
  refine lv_iconst (v := 0) hx hb dX0_startOver_12 (by decide) ?_
  refine x_fi3 (v := 0) ⟨hx, hb, hml, hown, hts⟩ (cw_fill hts ⟨by decide, by decide⟩) hw hl.1 dX0_startOver_13 ⟨Nat.zero_le _, Nat.zero_le _⟩ (fun H locs hw => ?_)
  refine lv_aload_n hx hb dX0_startOver_16 rfl (lv_at hl 0 rfl) ?_
  refine x_g4 hx hb hts hown hw dX0_startOver_17 ?_
  refine lv_iconst (v := 0) hx hb dX0_startOver_20 (by decide) ?_
  refine x_fi4 (v := 0) ⟨hx, hb, hml, hown, hts⟩ (cw_fill hts ⟨by decide, by decide⟩) hw hl.1 dX0_startOver_21 ⟨Nat.zero_le _, Nat.zero_le _⟩ (fun H locs hw => ?_)
  refine lv_aload_n hx hb dX0_startOver_24 rfl (lv_at hl 0 rfl) ?_
  refine x_g5 hx hb hts hown hw dX0_startOver_25 ?_
  refine lv_iconst (v := -1) hx hb dX0_startOver_28 (by decide) ?_
  refine x_fi5 (v := (-1)) ⟨hx, hb, hml, hown, hts⟩ (cw_fill hts ⟨by decide, by decide⟩) hw hl.1 dX0_startOver_29 ⟨Nat.zero_le _, Nat.zero_le _⟩ (fun H locs hw => ?_)
  refine lv_aload_n hx hb dX0_startOver_32 rfl (lv_at hl 0 rfl) ?_
  refine lv_iload_n hx hb dX0_startOver_33 rfl (lv_at hl 1 rfl) ?_
  refine x_p0 (x := x) hx hb hts hown hw dX0_startOver_34 (fun H locs hw => ?_)
  refine lv_aload_n hx hb dX0_startOver_37 rfl (lv_at hl 0 rfl) ?_
  refine lv_iconst (v := 0) hx hb dX0_startOver_38 (by decide) ?_
  refine x_p1 (x := 0) hx hb hts hown hw dX0_startOver_39 (fun H locs hw => ?_)
  refine lv_aload_n hx hb dX0_startOver_42 rfl (lv_at hl 0 rfl) ?_
  refine lv_iconst (v := 0) hx hb dX0_startOver_43 (by decide) ?_
  refine x_p2 (x := 0) hx hb hts hown hw dX0_startOver_44 (fun H locs hw => ?_)
  refine lv_aload_n hx hb dX0_startOver_47 rfl (lv_at hl 0 rfl) ?_
  refine lv_iconst (v := 0) hx hb dX0_startOver_48 (by decide) ?_
  refine x_p3 (x := 0) hx hb hts hown hw dX0_startOver_49 (fun H locs hw => ?_)
  exact x_retv hx hb hr hlocks hw rfl dX0_startOver_52
theorem cwx_startOver {R : Room} {s : State} {args : Array Value} (hts : ∀ w ∈ GT, w.before args s = true) (hR : 1 + 1 ≤ R.frames ∧ 8 + (2 + 11) + 40 * 1 ≤ R.locals) : CallW R s args RX0 RX0 28 yX0_startOver cX0_startOver 2 none ((.code yX0_startOver cX0_startOver 2 none : Cond) :: GT) (rmD 1) 0 0 1 :=
  cwV 1 hts (show GoodIn GT (wsV RX0 28 RX0 yX0_startOver ((.code yX0_startOver cX0_startOver 2 none : Cond) :: GT)) from lw_gin (lw_gin (lw_gin (lw_gin (lw_gin lw_self gw_20) gw_1) gw_284) gw_19) gw_18) rfl rfl rfl (by decide +kernel) hR
set_option maxRecDepth 100000 in
set_option maxHeartbeats 4000000 in
theorem cx_choose (l : Launch) (D : va_G) (o : Nat → Nat) (cA : ClassId) (S : SX) (x : Int32) (hx0 : ¬ x < 0) (hx3 : x < 4) : xMi l D o cA yX0_choose cX0_choose 2 (some .boolean) 2 [.ref (o 0), .int x] S (xSo S x) (bI true) := by
  intro sz
  refine x_met (by decide) rfl (Nat.le_of_ble_eq_true rfl) ?_
  intro P0 e s m below meth c ls hsz hx hb hml hr hlocks hown hts hl hw
  subst hsz
  have hl : lv_has ls 2 [(0, .ref (o 0)), (1, .int x)] := hl
  refine lv_iload_n hx hb dX0_choose_0 rfl (lv_at hl 1 rfl) ?_
  refine lv_if_lt (tgt := 9) hx hb dX0_choose_1 (by decide) (fun h9 => absurd h9 (hx0)) (fun _ => ?_)
  refine lv_iload_n hx hb dX0_choose_4 rfl (lv_at hl 1 rfl) ?_
  refine lv_iconst (v := 4) hx hb dX0_choose_5 (by decide) ?_
  refine lv_icmp_lt (tgt := 11) hx hb dX0_choose_6 (by decide) (fun _ => ?_) (fun h9 => absurd (hx3) h9)
  refine lv_aload_n hx hb dX0_choose_11 rfl (lv_at hl 0 rfl) ?_
  refine lv_iload_n hx hb dX0_choose_12 rfl (lv_at hl 1 rfl) ?_
  refine x_cv (rest := []) ⟨hx, hb, hml, hown, hts⟩ (cx_startOver l D o cA S x) (cwx_startOver hts ⟨by decide, by decide⟩) hw rfl hl.1 rfl (Nat.le_of_ble_eq_true rfl) dX0_choose_13 ⟨Nat.zero_le _, Nat.zero_le _⟩ (fun H locs hw => ?_)
  refine lv_iconst (v := 1) hx hb dX0_choose_16 (by decide) ?_
  exact x_retz hx hb hr hlocks hw ⟨rfl, rfl⟩ dX0_choose_17
set_option maxRecDepth 100000 in
set_option maxHeartbeats 4000000 in
theorem cx_choose_bad (l : Launch) (D : va_G) (o : Nat → Nat) (cA : ClassId) (S : SX) (x : Int32) (hbad : x < 0 ∨ ¬ x < 4) : xMi l D o cA yX0_choose cX0_choose 2 (some .boolean) 0 [.ref (o 0), .int x] S (S) (bI false) := by
  intro sz
  refine x_met (by decide) rfl (Nat.le_of_ble_eq_true rfl) ?_
  intro P0 e s m below meth c ls hsz hx hb hml hr hlocks hown hts hl hw
  subst hsz
  have hl : lv_has ls 2 [(0, .ref (o 0)), (1, .int x)] := hl
  refine lv_iload_n hx hb dX0_choose_0 rfl (lv_at hl 1 rfl) ?_
  refine lv_if_lt (tgt := 9) hx hb dX0_choose_1 (by decide) (fun g1 => ?_) (fun g1 => ?_)
  · refine lv_iconst (v := 0) hx hb dX0_choose_9 (by decide) ?_
    exact x_retz hx hb hr hlocks hw ⟨rfl, rfl⟩ dX0_choose_10
  · refine lv_iload_n hx hb dX0_choose_4 rfl (lv_at hl 1 rfl) ?_
    refine lv_iconst (v := 4) hx hb dX0_choose_5 (by decide) ?_
    refine lv_icmp_lt (tgt := 11) hx hb dX0_choose_6 (by decide) (fun h9 => absurd h9 (hbad.resolve_left g1)) (fun _ => ?_)
    refine lv_iconst (v := 0) hx hb dX0_choose_9 (by decide) ?_
    exact x_retz hx hb hr hlocks hw ⟨rfl, rfl⟩ dX0_choose_10
