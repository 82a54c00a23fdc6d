theorem l_D0 {A : Nat → Prop} : va_D A [] := ⟨fun i j p q hp => by simp at hp, fun k q hk => by simp at hk⟩
theorem l_P0 {D : va_G} {cl : List vw_C} {H : Heap} : va_P D cl [] H := fun k q hk => by simp at hk
theorem l_K {s : State} {args : Array Value} (hts : ∀ w ∈ GT, w.before args s = true) : ∃ D : va_G, va_K D vwCl [] s := by
  obtain ⟨c0, i0, h0⟩ := u_known (N := 10) hts inX0 (hts (.instantiable RX0 10) gw_11)
  obtain ⟨c1, i1, h1⟩ := u_known (N := 10) hts inX1 (hts (.instantiable RX1 10) gw_176)
  refine ⟨(fun k => if k = 0 then c0 else c1, fun k => if k = 0 then i0 else i1), fun c q hq => ?_, fun k q hk => by simp at hk⟩
  have hc : c < 2 := (List.getElem?_eq_some_iff.mp hq).1
  have hc2 : c = 0 ∨ c = 1 := by omega
  rcases hc2 with rfl | rfl
  · have h2 := Option.some.inj hq
    rw [← h2]
    exact h0
  · have h2 := Option.some.inj hq
    rw [← h2]
    exact h1
set_option maxRecDepth 100000 in
set_option maxHeartbeats 4000000 in
/-- from the entry, for every script of at most 2048 ints, the law comes to its end with true -/
theorem whole_start {p : Program} {e : Env} {s : State} {m : MethodId} {below : List Frame} {meth : Method} {c : Code} (l : Launch) (hl9 : l.stackTraces = false) {b L : Nat} {xs : Nat → Int32} (hL : L ≤ 2048) (C0 : lw_At p s m meth c b L xs) : W p l e room_1 s m #[Value.ref b] below meth c s.heap [] 0 0 (lw_Z below #[Value.ref b] s) (entryFrame m ([Value.ref b] : List Value).toArray 7) := by
  obtain ⟨hx, hb, hr, hml, hown, hts9, hX, hbl, hlocks, hg⟩ := C0
  have hown : s.vm.findClass RL = some m.cls := hown
  have hts : ∀ w ∈ GT, w.before #[Value.ref b] s = true := fun w h => hts9 w (List.mem_filter.mp h).1
  obtain ⟨sa, sb, sc, hE, hN⟩ := l_EN hts9 hg
  obtain ⟨D, hK⟩ := l_K hts
  have hA9 : ∀ a, s.heap.size ≤ a → lA s a := fun a h => h
  have hl := lv_entry [Value.ref b] (n := 7) (Nat.le_of_ble_eq_true rfl)
  rw [lg_entry_eq]
  generalize (lg_sl [Value.ref b] ++ List.replicate (7 - (lg_sl [Value.ref b]).length) Slot.unset).toArray = ls at hl ⊢
  have hl : lv_has ls 7 [(0, .ref b)] := hl
  have hS : va_S (lA s) s.heap s.heap [] := va_S.rf
  refine va_new (ci := 0) (fs := [.null, .null, .null, .null, .null, .null, .int 0, .int 0, .int 0, .int 0]) (C := RX0) (T := TX0) (N := 10) hx hb hts inX0 tyX0 tyX0_ok hown (hts (.classLink RL 8 RX0) gw_10) (hts (.instantiable RX0 10) gw_11) (hts (.initialized RX0) gw_1) hK l_P0 l_D0 hS hA9 rfl (fun j hj => by
    have hj2 : j = 0 ∨ j = 1 ∨ j = 2 ∨ j = 3 ∨ j = 4 ∨ j = 5 ∨ j = 6 ∨ j = 7 ∨ j = 8 ∨ j = 9 := by omega
    rcases hj2 with rfl | rfl | rfl | rfl | rfl | rfl | rfl | rfl | rfl | rfl <;> rfl) (Nat.le_of_ble_eq_true rfl) (Nat.le_of_ble_eq_true rfl) dL_law_0 (fun q1 H hP hD hS => ?_)
  have hP : va_P D vwCl [(q1, .inr (0, [.null, .null, .null, .null, .null, .null, .int 0, .int 0, .int 0, .int 0]))] H := hP
  have hD : va_D (lA s) [(q1, .inr (0, [.null, .null, .null, .null, .null, .null, .int 0, .int 0, .int 0, .int 0]))] := hD
  refine lv_dup hx hb dL_law_3 rfl ?_
  have hq1 : lA s q1 := hD.2 0 _ rfl
  have hfr : ∀ a, iA q1 H.size a → lA s a := fun a h => by
    rcases h with h | h
    · rw [h]
      exact hq1
    · exact Nat.le_trans hS.1 h
  refine va_callv (va_runI (As := []) (rest := [.ref q1]) ⟨hx, hb, hml, hown, hts⟩ (cx_init l D q1 H.size) (cwI 0 hts (lw_gin lw_self gw_14) rfl rfl rfl (hts (.initialized RX0) gw_1) (hts (.methodLink RL 25 yX0_init) gw_12) (hts (.instanceMethod yX0_init) gw_13) rfl (by decide +kernel) ⟨by decide, by decide⟩) ⟨fun a U g mk h => ?_, fun U hU hW9 => ⟨rfl, by rw [hU], by rw [hU]; exact hP, va_K.moved hW9.alike hK⟩⟩ rfl rfl hl.1 rfl (lv_room (Nat.le_of_ble_eq_true rfl)) dL_law_4 ⟨Nat.le_of_ble_eq_true rfl, Nat.le_of_ble_eq_true rfl⟩) hS (fun a _ h => hfr a h) hfr (fun u t H1 locs1 ht hvm hp hB hz1 hk1 hS1 => ?_)
  · obtain ⟨g0, g1, g2, g3⟩ := h
    exact ⟨g0, g1, g2, va_K.moved (u := U) (U := U.calling g mk a) (Vm.Alike.refl U.vm) g3⟩
  obtain ⟨ox, cA, rfl, hPx, hKx, hDx⟩ := hB
  rw [ht] at hPx
  have hKx := va_K.moved hvm.symm hKx
  have hDx : va_D (lA s) (xw ox cA (xSo S00 0)) := hDx.weaken (fun k a _ h => hfr a.1 h)
  refine lv_astore_n (lv' := [(1, .ref (ox 0)), (0, .ref b)]) hx hb dL_law_7 rfl hl (by decide) rfl (fun ls hl => ?_)
  refine va_new (ci := 1) (fs := [.null, .null, .null, .null, .null, .int 0, .int 0, .int 0, .int 0, .int 0]) (C := RX1) (T := TX1) (N := 10) hx hb hts inX1 tyX1 tyX1_ok hown (hts (.classLink RL 26 RX1) gw_175) (hts (.instantiable RX1 10) gw_176) (hts (.initialized RX1) gw_3) hKx hPx hDx hS1 hA9 rfl (fun j hj => by
    have hj2 : j = 0 ∨ j = 1 ∨ j = 2 ∨ j = 3 ∨ j = 4 ∨ j = 5 ∨ j = 6 ∨ j = 7 ∨ j = 8 ∨ j = 9 := by omega
    rcases hj2 with rfl | rfl | rfl | rfl | rfl | rfl | rfl | rfl | rfl | rfl <;> rfl) (Nat.le_of_ble_eq_true rfl) (Nat.le_of_ble_eq_true rfl) dL_law_8 (fun q2 H2 hP2 hD2 hS2 => ?_)
  refine lv_dup hx hb dL_law_11 rfl ?_
  have hPx2 : va_P D vwCl (xw ox cA (xSo S00 0)) H2 := hP2.sub [0, 1, 2, 3, 4, 5, 6] rfl
  have hPm2 : va_P D vwCl [(q2, .inr (1, [.null, .null, .null, .null, .null, .int 0, .int 0, .int 0, .int 0, .int 0]))] H2 := hP2.sub [7] rfl
  have hq2 : lA s q2 := hD2.2 7 _ rfl
  have hne2 : ∀ i, i < 7 → ox i ≠ q2 := fun i hi e => by
    obtain ⟨e1, p1⟩ := xw_is (o := ox) (cA := cA) (S := xSo S00 0) hi
    have h1 : (xw ox cA (xSo S00 0) ++ [(q2, .inr (1, [.null, .null, .null, .null, .null, .int 0, .int 0, .int 0, .int 0, .int 0]))])[i]? = some (ox i, e1) := by rw [List.getElem?_append_left (show i < 7 from hi)]; exact p1
    have h2 := hD2.1 i 7 _ _ h1 (show (xw ox cA (xSo S00 0) ++ [(q2, .inr (1, [.null, .null, .null, .null, .null, .int 0, .int 0, .int 0, .int 0, .int 0]))])[7]? = some (q2, _) from rfl) e
    omega
  have hlt2 : ∀ i, i < 7 → ox i < H2.size := fun i hi => by
    obtain ⟨e1, p1⟩ := xw_is (o := ox) (cA := cA) (S := xSo S00 0) hi
    exact (hPx2 i _ p1).lt
  have hfr2 : ∀ a, iA q2 H2.size a → lA s a := fun a h => by
    rcases h with h | h
    · rw [h]
      exact hq2
    · exact Nat.le_trans hS2.1 h
  refine va_callv (va_runI (As := []) (rest := [.ref q2]) ⟨hx, hb, hml, hown, hts⟩ (cm_init l D q2 H2.size) (cwI 0 hts (lw_gin lw_self gw_179) rfl rfl rfl (hts (.initialized RX1) gw_3) (hts (.methodLink RL 28 yX1_init) gw_177) (hts (.instanceMethod yX1_init) gw_178) rfl (by decide +kernel) ⟨by decide, by decide⟩) ⟨fun a U g mk h => ?_, fun U hU hW9 => ⟨rfl, by rw [hU], by rw [hU]; exact hPm2, va_K.moved hW9.alike (hKx.sub (tys' := []) [] rfl)⟩⟩ rfl rfl hl.1 rfl (lv_room (Nat.le_of_ble_eq_true rfl)) dL_law_12 ⟨Nat.le_of_ble_eq_true rfl, Nat.le_of_ble_eq_true rfl⟩) hS2 (fun a _ h => hfr2 a h) hfr2 (fun u t H3 locs3 ht hvm hp hB hz3 hk3 hS3 => ?_)
  · obtain ⟨g0, g1, g2, g3⟩ := h
    exact ⟨g0, g1, g2, va_K.moved (u := U) (U := U.calling g mk a) (Vm.Alike.refl U.vm) g3⟩
  obtain ⟨om, cB, rfl, hPm, hKm, hDm⟩ := hB
  rw [ht] at hPm
  have hKm := va_K.moved hvm.symm hKm
  have hPx3 : va_P D vwCl (xw ox cA (xSo S00 0)) H3 := hPx2.kept (fun k x hx9 => by
    obtain ⟨g1, g2⟩ := xw_at hx9
    refine hk3 x.1 (hPx2 k x hx9).lt (fun h => ?_)
    rw [g2] at h
    rcases h with h | h
    · exact hne2 k g1 h
    · exact absurd (hlt2 k g1) (Nat.not_lt.mpr h))
  have hdis : ∀ i j, i < 7 → j < 6 → ox i ≠ om j := fun i j hi hj e => by
    obtain ⟨e1, p1⟩ := mw_is (o := om) (cA := cB) (S := zF S00 0 0) hj
    rcases hDm.2 j _ p1 with h | h
    · exact hne2 i hi (e.trans h)
    · have h1 := hlt2 i hi
      rw [e] at h1
      exact absurd h1 (Nat.not_lt.mpr h)
  have hDm : va_D (lA s) (mw om cB (zF S00 0 0)) := hDm.weaken (fun k a _ h => hfr2 a.1 h)
  refine lv_astore_n (lv' := [(2, .ref (om 0)), (1, .ref (ox 0)), (0, .ref b)]) hx hb dL_law_15 rfl hl (by decide) rfl (fun ls hl => ?_)
  refine lv_iconst (v := 1) hx hb dL_law_16 (by decide) ?_
  have hDD : va_D (lA s) (xw ox cA (xSo S00 0) ++ mw om cB (zF S00 0 0)) := hDx.app hDm (fun i j x y h1 h2 e => by
    obtain ⟨g1, g2⟩ := xw_at h1
    obtain ⟨g3, g4⟩ := mw_at h2
    exact hdis i j g1 g3 (g2.symm.trans (e.trans g4)))
  refine va_newa (atype := .long) (n := 1) (ty := .long) (N' := 1) (a0 := (1, .inr (.inl (fun _ => 0)))) hx hb (hts (.arrayClass .long) gw_283) rfl (hKx.app hKm) (hPx3.app hPm) hDD hS3 hA9 (fun _ => rfl) (by decide) (by decide +kernel) (by decide +kernel) (Nat.le_of_ble_eq_true rfl) (Nat.le_of_ble_eq_true rfl) dL_law_17 (fun q cL H4 hK4 hP4 hD4 hS4 => ?_)
  refine lv_astore_n (lv' := [(3, .ref q), (2, .ref (om 0)), (1, .ref (ox 0)), (0, .ref b)]) hx hb dL_law_19 rfl hl (by decide) rfl (fun ls hl => ?_)
  refine lv_iconst (v := 0) hx hb dL_law_20 (by decide) ?_
  refine lv_istore (lv' := [(4, .int 0), (3, .ref q), (2, .ref (om 0)), (1, .ref (ox 0)), (0, .ref b)]) hx hb dL_law_21 hl (by decide) rfl (fun ls hl => ?_)
  have hqA : lA s q := hD4.2 13 _ rfl
  have hPx4 : va_P D vwCl (xw ox cA (xSo S00 0)) H4 := hP4.sub [0, 1, 2, 3, 4, 5, 6] rfl
  have hPm4 : va_P D vwCl (mw om cB (zF S00 0 0)) H4 := hP4.sub [7, 8, 9, 10, 11, 12] rfl
  have hPq4 : va_P D vwCl (hw1 q cL (fun _ => 0)) H4 := hP4.sub [13] rfl
  have hKq4 : va_K D vwCl [(cL, .long)] s := hK4.sub [2] rfl
  have hqx : ∀ i, i < 7 → q ≠ ox i := fun i hi e => by
    obtain ⟨e1, p1⟩ := xw_is (o := ox) (cA := cA) (S := xSo S00 0) hi
    have h1 : ((xw ox cA (xSo S00 0) ++ mw om cB (zF S00 0 0)) ++ [(q, .inl (cL, 1, .inr (.inl (fun _ => 0))))])[i]? = some (ox i, e1) := by
      rw [List.getElem?_append_left (show i < 13 by omega), List.getElem?_append_left (show i < 7 from hi)]
      exact p1
    have h2 := hD4.1 13 i _ _ (show ((xw ox cA (xSo S00 0) ++ mw om cB (zF S00 0 0)) ++ [(q, .inl (cL, 1, .inr (.inl (fun _ => 0))))])[13]? = some (q, _) from rfl) h1 e
    omega
  have hqm : ∀ j, j < 6 → q ≠ om j := fun j hj e => by
    obtain ⟨e1, p1⟩ := mw_is (o := om) (cA := cB) (S := zF S00 0 0) hj
    have h1 : ((xw ox cA (xSo S00 0) ++ mw om cB (zF S00 0 0)) ++ [(q, .inl (cL, 1, .inr (.inl (fun _ => 0))))])[7 + j]? = some (om j, e1) := by
      rw [List.getElem?_append_left (show 7 + j < 13 by omega), List.getElem?_append_right (show 7 ≤ 7 + j by omega)]
      rw [show 7 + j - (xw ox cA (xSo S00 0)).length = j from Nat.add_sub_cancel_left 7 j]
      exact p1
    have h2 := hD4.1 13 (7 + j) _ _ (show ((xw ox cA (xSo S00 0) ++ mw om cB (zF S00 0 0)) ++ [(q, .inl (cL, 1, .inr (.inl (fun _ => 0))))])[13]? = some (q, _) from rfl) h1 e
    omega
  exact law_loop l hl9 hL hx hb hml hown hts hX hbl hE hN hr hlocks 512 0 (by omega) (by omega) (xSo S00 0) (zF S00 0 0) (fun _ => 0) H4 _ ls (lv_sub hl [0, 4, 3, 2, 1] rfl) ⟨⟨⟨hPx4, hDx, hS4, hKx, hA9⟩, hPq4, hqA, hqx, hKq4⟩, ⟨hPm4, hDm, hS4, hKm, hA9⟩, hqm, hdis⟩ rr_new
