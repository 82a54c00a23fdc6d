set_option maxRecDepth 100000 in
set_option maxHeartbeats 4000000 in
theorem cm_within (l : Launch) (x t : Int32)  : sM l yX1_within cX1_within 2 (some .boolean) 0 [.int x, .int t] (bI (inW x t)) := by
  refine s_met (by decide) rfl (Nat.le_of_ble_eq_true rfl) ?_
  intro P0 e s m below meth c ls hx hb hml hr hlocks hown hts hl hw
  have hl : lv_has ls 2 [(0, .int x), (1, .int t)] := hl
  refine lv_iload_n hx hb dX1_within_0 rfl (lv_at hl 0 rfl) ?_
  refine lv_if_lt (tgt := 13) hx hb dX1_within_1 (by decide) (fun g1 => ?_) (fun g1 => ?_)
  · refine lv_iconst (v := 0) hx hb dX1_within_13 (by decide) ?_
    exact s_retz hx hb hr hlocks hw (by simp [inW, bI, g1]) dX1_within_14
  · refine lv_iload_n hx hb dX1_within_4 rfl (lv_at hl 0 rfl) ?_
    refine lv_iload_n hx hb dX1_within_5 rfl (lv_at hl 1 rfl) ?_
    refine lv_icmp_gt (tgt := 13) hx hb dX1_within_6 (by decide) (fun g2 => ?_) (fun g2 => ?_)
    · refine lv_iconst (v := 0) hx hb dX1_within_13 (by decide) ?_
      exact s_retz hx hb hr hlocks hw (by simp [inW, bI, g1, g2]) dX1_within_14
    · refine lv_iconst (v := 1) hx hb dX1_within_9 (by decide) ?_
      refine lv_goto (tgt := 14) hx hb dX1_within_10 (by decide) ?_
      exact s_retz hx hb hr hlocks hw (by simp [inW, bI, g1, g2]) dX1_within_14
theorem cwm_within {R : Room} {s : State} {args : Array Value} (hts : ∀ w ∈ GT, w.before args s = true) (hR : 0 + 1 ≤ R.frames ∧ 8 + (2 + 11) + 40 * 0 ≤ R.locals) : CallB R s args RX1 70 yX1_within cX1_within 2 (some .boolean) ((.code yX1_within cX1_within 2 (some .boolean) : Cond) :: GT) (rmD 0) 0 0 2 ∧ (Cond.static yX1_within).before args s = true :=
  va_cwS 2 hts (show GoodIn GT (va_wsS RX1 70 yX1_within ((.code yX1_within cX1_within 2 (some .boolean) : Cond) :: GT)) from lw_gin (lw_gin (lw_gin (lw_gin lw_self gw_205) gw_3) gw_204) gw_203) rfl rfl rfl (by decide +kernel) hR
set_option maxRecDepth 100000 in
set_option maxHeartbeats 4000000 in
theorem cm_protocol (l : Launch) (D : va_G) (o : Nat → Nat) (cA : ClassId) (S : SX)   : mMi l D o cA yX1_protocol cX1_protocol 1 (some .int) 0 [.ref (o 0)] S (S) (S.2 0) := by
  intro sz
  refine m_met (by decide) rfl (Nat.le_of_ble_eq_true rfl) ?_
  intro P0 e s m below meth c ls hsz hx hb hml hr hlocks hown hts hl hw
  subst hsz
  have hl : lv_has ls 1 [(0, .ref (o 0))] := hl
  refine lv_aload_n hx hb dX1_protocol_0 rfl (lv_at hl 0 rfl) ?_
  refine m_f0 hx hb hts hown hw dX1_protocol_1 ?_
  exact m_reti hx hb hr hlocks hw ⟨rfl, rfl⟩ dX1_protocol_4
set_option maxRecDepth 100000 in
set_option maxHeartbeats 4000000 in
theorem cm_hits (l : Launch) (D : va_G) (o : Nat → Nat) (cA : ClassId) (S : SX)   : mMi l D o cA yX1_hits cX1_hits 1 (some .int) 0 [.ref (o 0)] S (S) (S.2 2) := by
  intro sz
  refine m_met (by decide) rfl (Nat.le_of_ble_eq_true rfl) ?_
  intro P0 e s m below meth c ls hsz hx hb hml hr hlocks hown hts hl hw
  subst hsz
  have hl : lv_has ls 1 [(0, .ref (o 0))] := hl
  refine lv_aload_n hx hb dX1_hits_0 rfl (lv_at hl 0 rfl) ?_
  refine m_f2 hx hb hts hown hw dX1_hits_1 ?_
  exact m_reti hx hb hr hlocks hw ⟨rfl, rfl⟩ dX1_hits_4
set_option maxRecDepth 100000 in
set_option maxHeartbeats 4000000 in
theorem cm_misses (l : Launch) (D : va_G) (o : Nat → Nat) (cA : ClassId) (S : SX)   : mMi l D o cA yX1_misses cX1_misses 1 (some .int) 0 [.ref (o 0)] S (S) (S.2 3) := by
  intro sz
  refine m_met (by decide) rfl (Nat.le_of_ble_eq_true rfl) ?_
  intro P0 e s m below meth c ls hsz hx hb hml hr hlocks hown hts hl hw
  subst hsz
  have hl : lv_has ls 1 [(0, .ref (o 0))] := hl
  refine lv_aload_n hx hb dX1_misses_0 rfl (lv_at hl 0 rfl) ?_
  refine m_f3 hx hb hts hown hw dX1_misses_1 ?_
  exact m_reti hx hb hr hlocks hw ⟨rfl, rfl⟩ dX1_misses_4
set_option maxRecDepth 100000 in
set_option maxHeartbeats 4000000 in
theorem cm_thrown (l : Launch) (D : va_G) (o : Nat → Nat) (cA : ClassId) (S : SX)   : mMi l D o cA yX1_thrown cX1_thrown 1 (some .int) 0 [.ref (o 0)] S (S) (S.2 4) := by
  intro sz
  refine m_met (by decide) rfl (Nat.le_of_ble_eq_true rfl) ?_
  intro P0 e s m below meth c ls hsz hx hb hml hr hlocks hown hts hl hw
  subst hsz
  have hl : lv_has ls 1 [(0, .ref (o 0))] := hl
  refine lv_aload_n hx hb dX1_thrown_0 rfl (lv_at hl 0 rfl) ?_
  refine m_f4 hx hb hts hown hw dX1_thrown_1 ?_
  exact m_reti hx hb hr hlocks hw ⟨rfl, rfl⟩ dX1_thrown_4
set_option maxRecDepth 100000 in
set_option maxHeartbeats 4000000 in
theorem cm_invalidates (l : Launch) (D : va_G) (o : Nat → Nat) (cA : ClassId) (S : SX)   : mMi l D o cA yX1_invalidates cX1_invalidates 1 (some .boolean) 0 [.ref (o 0)] S (S) (bI (decide (¬ 3 ≤ S.2 0))) := by
  intro sz
  refine m_met (by decide) rfl (Nat.le_of_ble_eq_true rfl) ?_
  intro P0 e s m below meth c ls hsz hx hb hml hr hlocks hown hts hl hw
  subst hsz
  have hl : lv_has ls 1 [(0, .ref (o 0))] := hl
  refine lv_aload_n hx hb dX1_invalidates_0 rfl (lv_at hl 0 rfl) ?_
  refine m_f0 hx hb hts hown hw dX1_invalidates_1 ?_
  refine lv_iconst (v := 3) hx hb dX1_invalidates_4 (by decide) ?_
  refine lv_icmp_ge (tgt := 12) hx hb dX1_invalidates_5 (by decide) (fun g1 => ?_) (fun g1 => ?_)
  · refine lv_iconst (v := 0) hx hb dX1_invalidates_12 (by decide) ?_
    exact m_retz hx hb hr hlocks hw ⟨by simp [bI, g1], rfl⟩ dX1_invalidates_13
  · refine lv_iconst (v := 1) hx hb dX1_invalidates_8 (by decide) ?_
    refine lv_goto (tgt := 13) hx hb dX1_invalidates_9 (by decide) ?_
    exact m_retz hx hb hr hlocks hw ⟨by simp [bI, g1], rfl⟩ dX1_invalidates_13
theorem cwm_invalidates {R : Room} {s : State} {args : Array Value} (hts : ∀ w ∈ GT, w.before args s = true) (hR : 0 + 1 ≤ R.frames ∧ 8 + (1 + 11) + 40 * 0 ≤ R.locals) : CallW R s args RX1 RX1 79 yX1_invalidates cX1_invalidates 1 (some .boolean) ((.code yX1_invalidates cX1_invalidates 1 (some .boolean) : Cond) :: GT) (rmD 0) 0 0 0 :=
  cwV 0 hts (show GoodIn GT (wsV RX1 79 RX1 yX1_invalidates ((.code yX1_invalidates cX1_invalidates 1 (some .boolean) : Cond) :: GT)) from lw_gin (lw_gin (lw_gin (lw_gin (lw_gin lw_self gw_242) gw_3) gw_310) gw_241) gw_240) rfl rfl rfl (by decide +kernel) hR
set_option maxRecDepth 100000 in
set_option maxHeartbeats 4000000 in
theorem cm_stateOf (l : Launch) (D : va_G) (o : Nat → Nat) (cA : ClassId) (S : SX) (u b : Nat) (hu : u < 4) (hbb : b < 16) : mMi l D o cA yX1_stateOf cX1_stateOf 3 (some .int) 0 [.ref (o 0), .int (nI u), .int (nI b)] S (S) (S.1 0 (16 * u + b)) := by
  intro sz
  refine m_met (by decide) rfl (Nat.le_of_ble_eq_true rfl) ?_
  intro P0 e s m below meth c ls hsz hx hb hml hr hlocks hown hts hl hw
  subst hsz
  have hl : lv_has ls 3 [(0, .ref (o 0)), (1, .int (nI u)), (2, .int (nI b))] := hl
  refine lv_aload_n hx hb dX1_stateOf_0 rfl (lv_at hl 0 rfl) ?_
  refine m_g0 hx hb hts hown hw dX1_stateOf_1 ?_
  refine lv_bipush (v := 16) hx hb dX1_stateOf_4 (by decide) ?_
  refine lv_iload_n hx hb dX1_stateOf_6 rfl (lv_at hl 1 rfl) ?_
  refine lv_imul hx hb dX1_stateOf_7 ?_
  refine lw_top (y := nI (16 * u)) (pk_mul 16 u) ?_
  refine lv_iload_n hx hb dX1_stateOf_8 rfl (lv_at hl 2 rfl) ?_
  refine lv_iadd hx hb dX1_stateOf_9 ?_
  refine lw_top (y := nI ((16 * u) + b)) (nI_add (16 * u) b) ?_
  refine m_l0 (n := (16 * u) + b) hx hb hw (by omega) dX1_stateOf_10 ?_
  exact m_reti hx hb hr hlocks hw ⟨rfl, rfl⟩ dX1_stateOf_11
theorem cwm_stateOf {R : Room} {s : State} {args : Array Value} (hts : ∀ w ∈ GT, w.before args s = true) (hR : 0 + 1 ≤ R.frames ∧ 8 + (3 + 11) + 40 * 0 ≤ R.locals) : CallW R s args RX1 RX1 41 yX1_stateOf cX1_stateOf 3 (some .int) ((.code yX1_stateOf cX1_stateOf 3 (some .int) : Cond) :: GT) (rmD 0) 0 0 2 :=
  cwV 2 hts (show GoodIn GT (wsV RX1 41 RX1 yX1_stateOf ((.code yX1_stateOf cX1_stateOf 3 (some .int) : Cond) :: GT)) from lw_gin (lw_gin (lw_gin (lw_gin (lw_gin lw_self gw_211) gw_3) gw_301) gw_210) gw_209) rfl rfl rfl (by decide +kernel) hR
set_option maxRecDepth 100000 in
set_option maxHeartbeats 4000000 in
theorem cm_setState (l : Launch) (D : va_G) (o : Nat → Nat) (cA : ClassId) (S : SX) (u b : Nat) (v : Int32) (hu : u < 4) (hbb : b < 16) : mMv l D o cA yX1_setState cX1_setState 4 0 [.ref (o 0), .int (nI u), .int (nI b), .int v] S (mSe S u b v) := by
  intro sz
  refine m_met (by decide) rfl (Nat.le_of_ble_eq_true rfl) ?_
  intro P0 e s m below meth c ls hsz hx hb hml hr hlocks hown hts hl hw
  subst hsz
  have hl : lv_has ls 4 [(0, .ref (o 0)), (1, .int (nI u)), (2, .int (nI b)), (3, .int v)] := hl
  refine lv_aload_n hx hb dX1_setState_0 rfl (lv_at hl 0 rfl) ?_
  refine m_g0 hx hb hts hown hw dX1_setState_1 ?_
  refine lv_bipush (v := 16) hx hb dX1_setState_4 (by decide) ?_
  refine lv_iload_n hx hb dX1_setState_6 rfl (lv_at hl 1 rfl) ?_
  refine lv_imul hx hb dX1_setState_7 ?_
  refine lw_top (y := nI (16 * u)) (pk_mul 16 u) ?_
  refine lv_iload_n hx hb dX1_setState_8 rfl (lv_at hl 2 rfl) ?_
  refine lv_iadd hx hb dX1_setState_9 ?_
  refine lw_top (y := nI ((16 * u) + b)) (nI_add (16 * u) b) ?_
  refine lv_iload_n hx hb dX1_setState_10 rfl (lv_at hl 3 rfl) ?_
  refine m_s0 (n := (16 * u) + b) (x := v) hx hb hw (by omega) dX1_setState_11 (fun H locs hw => ?_)
  exact m_retv hx hb hr hlocks hw rfl dX1_setState_12
theorem cwm_setState {R : Room} {s : State} {args : Array Value} (hts : ∀ w ∈ GT, w.before args s = true) (hR : 0 + 1 ≤ R.frames ∧ 8 + (4 + 11) + 40 * 0 ≤ R.locals) : CallW R s args RX1 RX1 53 yX1_setState cX1_setState 4 none ((.code yX1_setState cX1_setState 4 none : Cond) :: GT) (rmD 0) 0 0 3 :=
  cwV 3 hts (show GoodIn GT (wsV RX1 53 RX1 yX1_setState ((.code yX1_setState cX1_setState 4 none : Cond) :: GT)) from lw_gin (lw_gin (lw_gin (lw_gin (lw_gin lw_self gw_226) gw_3) gw_306) gw_225) gw_224) rfl rfl rfl (by decide +kernel) hR
set_option maxRecDepth 100000 in
set_option maxHeartbeats 4000000 in
theorem cm_transact (l : Launch) (D : va_G) (o : Nat → Nat) (cA : ClassId) (S : SX) (k u b : Nat) (hk : k < 5) (hu : u < 4) (hbb : b < 16) : mMv l D o cA yX1_transact cX1_transact 5 0 [.ref (o 0), .int (nI k), .int (nI u), .int (nI b)] S (mTr S k u b) := by
  intro sz
  refine m_met (by decide) rfl (Nat.le_of_ble_eq_true rfl) ?_
  intro P0 e s m below meth c ls hsz hx hb hml hr hlocks hown hts hl hw
  subst hsz
  have hl : lv_has ls 5 [(0, .ref (o 0)), (1, .int (nI k)), (2, .int (nI u)), (3, .int (nI b))] := hl
  have loop : ∀ (j : Nat), j < 8 → ∀ (f : Nat → Int32) (H : Heap) (locs : List Loc) (ls : Array Slot), lv_has ls 5 [(4, .int (nI j)), (0, .ref (o 0)), (1, .int (nI k)), (2, .int (nI u)), (3, .int (nI b))] → mW D o cA (mA o s.heap.size) s s.heap (zA (zA S 3 (upd (S.1 3) k (S.1 3 k + 1))) 4 f) H locs → shF j f = shF 7 (S.1 4) → W P0 l e (rmD 0) s m ([.ref (o 0), .int (nI k), .int (nI u), .int (nI b)]).toArray below meth c H locs 0 0 (MQ below (mQv D o cA s.heap.size (mTr S k u b)) ([.ref (o 0), .int (nI k), .int (nI u), .int (nI b)]).toArray s 0 0 (mA o s.heap.size)) (F0 m 14 ls []) := by
    intro j
    induction j with
    | zero =>
      intro hj f H locs ls hl hw hf
      refine lv_iload hx hb dX1_transact_14 (lv_at hl 0 rfl) ?_
      refine lv_if_le (tgt := 41) hx hb dX1_transact_16 (by decide) (fun _ => ?_) (fun h9 => absurd (by decide) h9)
      refine lv_aload_n hx hb dX1_transact_41 rfl (lv_at hl 1 rfl) ?_
      refine m_g4 hx hb hts hown hw dX1_transact_42 ?_
      refine lv_iconst (v := 0) hx hb dX1_transact_45 (by decide) ?_
      refine lv_bipush (v := 64) hx hb dX1_transact_46 (by decide) ?_
      refine lv_iload_n hx hb dX1_transact_48 rfl (lv_at hl 2 rfl) ?_
      refine lv_imul hx hb dX1_transact_49 ?_
      refine lw_top (y := nI (64 * k)) (pk_mul 64 k) ?_
      refine lv_bipush (v := 16) hx hb dX1_transact_50 (by decide) ?_
      refine lv_iload_n hx hb dX1_transact_52 rfl (lv_at hl 3 rfl) ?_
      refine lv_imul hx hb dX1_transact_53 ?_
      refine lw_top (y := nI (16 * u)) (pk_mul 16 u) ?_
      refine lv_iadd hx hb dX1_transact_54 ?_
      refine lw_top (y := nI ((64 * k) + (16 * u))) (nI_add (64 * k) (16 * u)) ?_
      refine lv_iload_n hx hb dX1_transact_55 rfl (lv_at hl 4 rfl) ?_
      refine lv_iadd hx hb dX1_transact_56 ?_
      refine lw_top (y := nI (((64 * k) + (16 * u)) + b)) (nI_add ((64 * k) + (16 * u)) b) ?_
      refine m_s4 (n := 0) (x := nI (((64 * k) + (16 * u)) + b)) hx hb hw (by omega) dX1_transact_57 (fun H locs hw => ?_)
      refine lv_aload_n hx hb dX1_transact_58 rfl (lv_at hl 1 rfl) ?_
      refine lv_dup hx hb dX1_transact_59 rfl ?_
      refine m_f1 hx hb hts hown hw dX1_transact_60 ?_
      refine lv_iconst (v := 1) hx hb dX1_transact_63 (by decide) ?_
      refine lv_iadd hx hb dX1_transact_64 ?_
      refine m_p1 (x := (((zA (zA (zA S 3 (upd (S.1 3) k (S.1 3 k + 1))) 4 f) 4 (upd ((zA (zA S 3 (upd (S.1 3) k (S.1 3 k + 1))) 4 f).1 4) 0 (nI (((64 * k) + (16 * u)) + b)))).2 1) + 1)) hx hb hts hown hw dX1_transact_65 (fun H locs hw => ?_)
      exact m_retv hx hb hr hlocks hw (by unfold mTr; rw [← show f = shF 7 (S.1 4) from hf, zA_zA, zA_s]; rfl) dX1_transact_68
    | succ j ih =>
      intro hj f H locs ls hl hw hf
      refine lv_iload hx hb dX1_transact_14 (lv_at hl 0 rfl) ?_
      refine lv_if_le (tgt := 41) hx hb dX1_transact_16 (by decide) (fun h9 => absurd h9 (nI_nle (by omega) (by omega))) (fun _ => ?_)
      refine lv_aload_n hx hb dX1_transact_19 rfl (lv_at hl 1 rfl) ?_
      refine m_g4 hx hb hts hown hw dX1_transact_20 ?_
      refine lv_iload hx hb dX1_transact_23 (lv_at hl 0 rfl) ?_
      refine lv_aload_n hx hb dX1_transact_25 rfl (lv_at hl 1 rfl) ?_
      refine m_g4 hx hb hts hown hw dX1_transact_26 ?_
      refine lv_iload hx hb dX1_transact_29 (lv_at hl 0 rfl) ?_
      refine lv_iconst (v := 1) hx hb dX1_transact_31 (by decide) ?_
      refine lv_isub hx hb dX1_transact_32 ?_
      refine lw_top (y := nI ((j + 1) - 1)) (pk_sub (a := (j + 1)) (b := 1) (by omega)) ?_
      refine lw_top (y := nI (j)) (congrArg nI (by omega)) ?_
      refine m_l4 (n := j) hx hb hw (by omega) dX1_transact_33 ?_
      refine m_s4 (n := j + 1) (x := ((zA (zA S 3 (upd (S.1 3) k (S.1 3 k + 1))) 4 f).1 4 j)) hx hb hw (by omega) dX1_transact_34 (fun H locs hw => ?_)
      rw [zA_zA, zA_s] at hw
      refine lv_iinc (k := 0) (v := nI j) (lv' := [(4, .int (nI j)), (0, .ref (o 0)), (1, .int (nI k)), (2, .int (nI u)), (3, .int (nI b))]) hx hb dX1_transact_35 hl rfl (pk_m1 j) (by decide) rfl (fun ls hl => ?_)
      refine lv_goto (tgt := 14) hx hb dX1_transact_38 (by decide) ?_
      exact ih (by omega) _ _ _ _ hl hw hf
  refine lv_aload_n hx hb dX1_transact_0 rfl (lv_at hl 0 rfl) ?_
  refine m_g3 hx hb hts hown hw dX1_transact_1 ?_
  refine lv_iload_n hx hb dX1_transact_4 rfl (lv_at hl 1 rfl) ?_
  refine lv_dup2_11 hx hb dX1_transact_5 rfl rfl ?_
  refine m_l3 (n := k) hx hb hw (by omega) dX1_transact_6 ?_
  refine lv_iconst (v := 1) hx hb dX1_transact_7 (by decide) ?_
  refine lv_iadd hx hb dX1_transact_8 ?_
  refine m_s3 (n := k) (x := ((S.1 3 k) + 1)) hx hb hw (by omega) dX1_transact_9 (fun H locs hw => ?_)
  refine lv_bipush (v := 7) hx hb dX1_transact_10 (by decide) ?_
  refine lv_istore (lv' := [(4, .int 7), (0, .ref (o 0)), (1, .int (nI k)), (2, .int (nI u)), (3, .int (nI b))]) hx hb dX1_transact_12 hl (by decide) rfl (fun ls hl => ?_)
  exact loop 7 (by decide) (S.1 4) _ _ _ hl (by rw [show S.1 4 = (zA S 3 (upd (S.1 3) k (S.1 3 k + 1))).1 4 from rfl, zA_id]; exact hw) rfl
theorem cwm_transact {R : Room} {s : State} {args : Array Value} (hts : ∀ w ∈ GT, w.before args s = true) (hR : 0 + 1 ≤ R.frames ∧ 8 + (5 + 11) + 40 * 0 ≤ R.locals) : CallW R s args RX1 RX1 45 yX1_transact cX1_transact 5 none ((.code yX1_transact cX1_transact 5 none : Cond) :: GT) (rmD 0) 0 0 3 :=
  cwV 3 hts (show GoodIn GT (wsV RX1 45 RX1 yX1_transact ((.code yX1_transact cX1_transact 5 none : Cond) :: GT)) from lw_gin (lw_gin (lw_gin (lw_gin (lw_gin lw_self gw_220) gw_3) gw_304) gw_219) gw_218) rfl rfl rfl (by decide +kernel) hR
set_option maxRecDepth 100000 in
set_option maxHeartbeats 4000000 in
theorem cm_toMemory (l : Launch) (D : va_G) (o : Nat → Nat) (cA : ClassId) (S : SX) (u b : Nat) (hu : u < 4) (hbb : b < 16) : mMv l D o cA yX1_toMemory cX1_toMemory 4 0 [.ref (o 0), .int (nI u), .int (nI b)] S (mTm S u b) := by
  intro sz
  refine m_met (by decide) rfl (Nat.le_of_ble_eq_true rfl) ?_
  intro P0 e s m below meth c ls hsz hx hb hml hr hlocks hown hts hl hw
  subst hsz
  have hl : lv_has ls 4 [(0, .ref (o 0)), (1, .int (nI u)), (2, .int (nI b))] := hl
  refine lv_iconst (v := 0) hx hb dX1_toMemory_0 (by decide) ?_
  refine lv_istore_n (lv' := [(3, .int 0), (0, .ref (o 0)), (1, .int (nI u)), (2, .int (nI b))]) hx hb dX1_toMemory_1 rfl hl (by decide) rfl (fun ls hl => ?_)
  refine lv_iload_n hx hb dX1_toMemory_2 rfl (lv_at hl 0 rfl) ?_
  refine lv_iconst (v := 2) hx hb dX1_toMemory_3 (by decide) ?_
  refine lv_icmp_ge (tgt := 38) hx hb dX1_toMemory_4 (by decide) (fun h9 => absurd h9 (by decide)) (fun _ => ?_)
  refine lv_aload_n hx hb dX1_toMemory_7 rfl (lv_at hl 1 rfl) ?_
  refine m_g2 hx hb hts hown hw dX1_toMemory_8 ?_
  refine lv_iconst (v := 2) hx hb dX1_toMemory_11 (by decide) ?_
  refine lv_iload_n hx hb dX1_toMemory_12 rfl (lv_at hl 3 rfl) ?_
  refine lv_imul hx hb dX1_toMemory_13 ?_
  refine lw_top (y := nI (2 * b)) (pk_mul 2 b) ?_
  refine lv_iload_n hx hb dX1_toMemory_14 rfl (lv_at hl 0 rfl) ?_
  refine lv_iadd hx hb dX1_toMemory_15 ?_
  refine lw_top (y := nI ((2 * b) + 0)) (nI_add (2 * b) 0) ?_
  refine lv_aload_n hx hb dX1_toMemory_16 rfl (lv_at hl 1 rfl) ?_
  refine m_g1 hx hb hts hown hw dX1_toMemory_17 ?_
  refine lv_bipush (v := 32) hx hb dX1_toMemory_20 (by decide) ?_
  refine lv_iload_n hx hb dX1_toMemory_22 rfl (lv_at hl 2 rfl) ?_
  refine lv_imul hx hb dX1_toMemory_23 ?_
  refine lw_top (y := nI (32 * u)) (pk_mul 32 u) ?_
  refine lv_iconst (v := 2) hx hb dX1_toMemory_24 (by decide) ?_
  refine lv_iload_n hx hb dX1_toMemory_25 rfl (lv_at hl 3 rfl) ?_
  refine lv_imul hx hb dX1_toMemory_26 ?_
  refine lw_top (y := nI (2 * b)) (pk_mul 2 b) ?_
  refine lv_iadd hx hb dX1_toMemory_27 ?_
  refine lw_top (y := nI ((32 * u) + (2 * b))) (nI_add (32 * u) (2 * b)) ?_
  refine lv_iload_n hx hb dX1_toMemory_28 rfl (lv_at hl 0 rfl) ?_
  refine lv_iadd hx hb dX1_toMemory_29 ?_
  refine lw_top (y := nI (((32 * u) + (2 * b)) + 0)) (nI_add ((32 * u) + (2 * b)) 0) ?_
  refine m_l1 (n := ((32 * u) + (2 * b)) + 0) hx hb hw (by omega) dX1_toMemory_30 ?_
  refine m_s2 (n := (2 * b) + 0) (x := (S.1 1 (((32 * u) + (2 * b)) + 0))) hx hb hw (by omega) dX1_toMemory_31 (fun H locs hw => ?_)
  refine lv_iinc (k := 0) (v := nI (0 + 1)) (lv' := [(3, .int (nI (0 + 1))), (0, .ref (o 0)), (1, .int (nI u)), (2, .int (nI b))]) hx hb dX1_toMemory_32 hl rfl (lw_inc 0 1) (by decide) rfl (fun ls hl => ?_)
  refine lv_goto (tgt := 2) hx hb dX1_toMemory_35 (by decide) ?_
  refine lv_iload_n hx hb dX1_toMemory_2 rfl (lv_at hl 0 rfl) ?_
  refine lv_iconst (v := 2) hx hb dX1_toMemory_3 (by decide) ?_
  refine lv_icmp_ge (tgt := 38) hx hb dX1_toMemory_4 (by decide) (fun h9 => absurd h9 (by decide)) (fun _ => ?_)
  refine lv_aload_n hx hb dX1_toMemory_7 rfl (lv_at hl 1 rfl) ?_
  refine m_g2 hx hb hts hown hw dX1_toMemory_8 ?_
  refine lv_iconst (v := 2) hx hb dX1_toMemory_11 (by decide) ?_
  refine lv_iload_n hx hb dX1_toMemory_12 rfl (lv_at hl 3 rfl) ?_
  refine lv_imul hx hb dX1_toMemory_13 ?_
  refine lw_top (y := nI (2 * b)) (pk_mul 2 b) ?_
  refine lv_iload_n hx hb dX1_toMemory_14 rfl (lv_at hl 0 rfl) ?_
  refine lv_iadd hx hb dX1_toMemory_15 ?_
  refine lw_top (y := nI ((2 * b) + (0 + 1))) (nI_add (2 * b) (0 + 1)) ?_
  refine lv_aload_n hx hb dX1_toMemory_16 rfl (lv_at hl 1 rfl) ?_
  refine m_g1 hx hb hts hown hw dX1_toMemory_17 ?_
  refine lv_bipush (v := 32) hx hb dX1_toMemory_20 (by decide) ?_
  refine lv_iload_n hx hb dX1_toMemory_22 rfl (lv_at hl 2 rfl) ?_
  refine lv_imul hx hb dX1_toMemory_23 ?_
  refine lw_top (y := nI (32 * u)) (pk_mul 32 u) ?_
  refine lv_iconst (v := 2) hx hb dX1_toMemory_24 (by decide) ?_
  refine lv_iload_n hx hb dX1_toMemory_25 rfl (lv_at hl 3 rfl) ?_
  refine lv_imul hx hb dX1_toMemory_26 ?_
  refine lw_top (y := nI (2 * b)) (pk_mul 2 b) ?_
  refine lv_iadd hx hb dX1_toMemory_27 ?_
  refine lw_top (y := nI ((32 * u) + (2 * b))) (nI_add (32 * u) (2 * b)) ?_
  refine lv_iload_n hx hb dX1_toMemory_28 rfl (lv_at hl 0 rfl) ?_
  refine lv_iadd hx hb dX1_toMemory_29 ?_
  refine lw_top (y := nI (((32 * u) + (2 * b)) + (0 + 1))) (nI_add ((32 * u) + (2 * b)) (0 + 1)) ?_
  refine m_l1 (n := ((32 * u) + (2 * b)) + (0 + 1)) hx hb hw (by omega) dX1_toMemory_30 ?_
  refine m_s2 (n := (2 * b) + (0 + 1)) (x := ((zA S 2 (upd (S.1 2) ((2 * b) + 0) (S.1 1 (((32 * u) + (2 * b)) + 0)))).1 1 (((32 * u) + (2 * b)) + (0 + 1)))) hx hb hw (by omega) dX1_toMemory_31 (fun H locs hw => ?_)
  refine lv_iinc (k := 0) (v := nI ((0 + 1) + 1)) (lv' := [(3, .int (nI ((0 + 1) + 1))), (0, .ref (o 0)), (1, .int (nI u)), (2, .int (nI b))]) hx hb dX1_toMemory_32 hl rfl (lw_inc (0 + 1) 1) (by decide) rfl (fun ls hl => ?_)
  refine lv_goto (tgt := 2) hx hb dX1_toMemory_35 (by decide) ?_
  refine lv_iload_n hx hb dX1_toMemory_2 rfl (lv_at hl 0 rfl) ?_
  refine lv_iconst (v := 2) hx hb dX1_toMemory_3 (by decide) ?_
  refine lv_icmp_ge (tgt := 38) hx hb dX1_toMemory_4 (by decide) (fun _ => ?_) (fun h9 => absurd (by decide) h9)
  exact m_retv hx hb hr hlocks hw (by simp [mTm, zA_zA, zA_s, zA_n]) dX1_toMemory_38
theorem cwm_toMemory {R : Room} {s : State} {args : Array Value} (hts : ∀ w ∈ GT, w.before args s = true) (hR : 0 + 1 ≤ R.frames ∧ 8 + (4 + 11) + 40 * 0 ≤ R.locals) : CallW R s args RX1 RX1 49 yX1_toMemory cX1_toMemory 4 none ((.code yX1_toMemory cX1_toMemory 4 none : Cond) :: GT) (rmD 0) 0 0 2 :=
  cwV 2 hts (show GoodIn GT (wsV RX1 49 RX1 yX1_toMemory ((.code yX1_toMemory cX1_toMemory 4 none : Cond) :: GT)) from lw_gin (lw_gin (lw_gin (lw_gin (lw_gin lw_self gw_223) gw_3) gw_305) gw_222) gw_221) rfl rfl rfl (by decide +kernel) hR
set_option maxRecDepth 100000 in
set_option maxHeartbeats 4000000 in
theorem cm_empty (l : Launch) (D : va_G) (o : Nat → Nat) (cA : ClassId) (S : SX) (u b : Nat) (hu : u < 4) (hbb : b < 16) : mMi l D o cA yX1_empty cX1_empty 4 (some .boolean) 1 [.ref (o 0), .int (nI u), .int (nI b)] S (mEm S u b) (bI (mDi (S.1 0 (16 * u + b)))) := by
  intro sz
  refine m_met (by decide) rfl (Nat.le_of_ble_eq_true rfl) ?_
  intro P0 e s m below meth c ls hsz hx hb hml hr hlocks hown hts hl hw
  subst hsz
  have hl : lv_has ls 4 [(0, .ref (o 0)), (1, .int (nI u)), (2, .int (nI b))] := hl
  refine lv_aload_n hx hb dX1_empty_0 rfl (lv_at hl 0 rfl) ?_
  refine lv_iload_n hx hb dX1_empty_1 rfl (lv_at hl 1 rfl) ?_
  refine lv_iload_n hx hb dX1_empty_2 rfl (lv_at hl 2 rfl) ?_
  refine m_ci (rest := []) ⟨hx, hb, hml, hown, hts⟩ (cm_stateOf l D o cA S u b (by omega) (by omega)) (cwm_stateOf hts ⟨by decide, by decide⟩) hw rfl hl.1 rfl (Nat.le_of_ble_eq_true rfl) dX1_empty_3 ⟨Nat.zero_le _, Nat.zero_le _⟩ (fun H locs hw => ?_)
  refine lv_iconst (v := 3) hx hb dX1_empty_6 (by decide) ?_
  refine lv_icmp_lt (tgt := 14) hx hb dX1_empty_7 (by decide) (fun g1 => ?_) (fun g1 => ?_)
  · refine lv_iconst (v := 0) hx hb dX1_empty_14 (by decide) ?_
    refine lv_istore_n (lv' := [(3, .int 0), (0, .ref (o 0)), (1, .int (nI u)), (2, .int (nI b))]) hx hb dX1_empty_15 rfl hl (by decide) rfl (fun ls hl => ?_)
    refine lv_iload_n hx hb dX1_empty_16 rfl (lv_at hl 0 rfl) ?_
    refine lv_if_eq (tgt := 33) hx hb dX1_empty_17 (by decide) (fun _ => ?_) (fun h9 => absurd (by decide) h9)
    refine lv_aload_n hx hb dX1_empty_33 rfl (lv_at hl 1 rfl) ?_
    refine lv_iload_n hx hb dX1_empty_34 rfl (lv_at hl 2 rfl) ?_
    refine lv_iload_n hx hb dX1_empty_35 rfl (lv_at hl 3 rfl) ?_
    refine lv_iconst (v := 0) hx hb dX1_empty_36 (by decide) ?_
    refine m_cv (rest := []) ⟨hx, hb, hml, hown, hts⟩ (cm_setState l D o cA S u b 0 (by omega) (by omega)) (cwm_setState hts ⟨by decide, by decide⟩) hw rfl hl.1 rfl (Nat.le_of_ble_eq_true rfl) dX1_empty_37 ⟨Nat.zero_le _, Nat.zero_le _⟩ (fun H locs hw => ?_)
    refine lv_iload_n hx hb dX1_empty_40 rfl (lv_at hl 0 rfl) ?_
    exact m_retz hx hb hr hlocks hw ⟨by simp [mDi, bI, g1], by simp [mEm, mEmT, mDi, g1]⟩ dX1_empty_41
  · refine lv_iconst (v := 1) hx hb dX1_empty_10 (by decide) ?_
    refine lv_goto (tgt := 15) hx hb dX1_empty_11 (by decide) ?_
    refine lv_istore_n (lv' := [(3, .int 1), (0, .ref (o 0)), (1, .int (nI u)), (2, .int (nI b))]) hx hb dX1_empty_15 rfl hl (by decide) rfl (fun ls hl => ?_)
    refine lv_iload_n hx hb dX1_empty_16 rfl (lv_at hl 0 rfl) ?_
    refine lv_if_eq (tgt := 33) hx hb dX1_empty_17 (by decide) (fun h9 => absurd h9 (by decide)) (fun _ => ?_)
    refine lv_aload_n hx hb dX1_empty_20 rfl (lv_at hl 1 rfl) ?_
    refine lv_iconst (v := 4) hx hb dX1_empty_21 (by decide) ?_
    refine lv_iload_n hx hb dX1_empty_22 rfl (lv_at hl 2 rfl) ?_
    refine lv_iload_n hx hb dX1_empty_23 rfl (lv_at hl 3 rfl) ?_
    refine m_cv (rest := []) ⟨hx, hb, hml, hown, hts⟩ (cm_transact l D o cA S 4 u b (by omega) (by omega) (by omega)) (cwm_transact hts ⟨by decide, by decide⟩) hw rfl hl.1 rfl (Nat.le_of_ble_eq_true rfl) dX1_empty_24 ⟨Nat.zero_le _, Nat.zero_le _⟩ (fun H locs hw => ?_)
    refine lv_aload_n hx hb dX1_empty_27 rfl (lv_at hl 1 rfl) ?_
    refine lv_iload_n hx hb dX1_empty_28 rfl (lv_at hl 2 rfl) ?_
    refine lv_iload_n hx hb dX1_empty_29 rfl (lv_at hl 3 rfl) ?_
    refine m_cv (rest := []) ⟨hx, hb, hml, hown, hts⟩ (cm_toMemory l D o cA (mTr S 4 u b) u b (by omega) (by omega)) (cwm_toMemory hts ⟨by decide, by decide⟩) hw rfl hl.1 rfl (Nat.le_of_ble_eq_true rfl) dX1_empty_30 ⟨Nat.zero_le _, Nat.zero_le _⟩ (fun H locs hw => ?_)
    refine lv_aload_n hx hb dX1_empty_33 rfl (lv_at hl 1 rfl) ?_
    refine lv_iload_n hx hb dX1_empty_34 rfl (lv_at hl 2 rfl) ?_
    refine lv_iload_n hx hb dX1_empty_35 rfl (lv_at hl 3 rfl) ?_
    refine lv_iconst (v := 0) hx hb dX1_empty_36 (by decide) ?_
    refine m_cv (rest := []) ⟨hx, hb, hml, hown, hts⟩ (cm_setState l D o cA (mTm (mTr S 4 u b) u b) u b 0 (by omega) (by omega)) (cwm_setState hts ⟨by decide, by decide⟩) hw rfl hl.1 rfl (Nat.le_of_ble_eq_true rfl) dX1_empty_37 ⟨Nat.zero_le _, Nat.zero_le _⟩ (fun H locs hw => ?_)
    refine lv_iload_n hx hb dX1_empty_40 rfl (lv_at hl 0 rfl) ?_
    exact m_retz hx hb hr hlocks hw ⟨by simp [mDi, bI, g1], by simp [mEm, mEmT, mDi, g1]⟩ dX1_empty_41
theorem cwm_empty {R : Room} {s : State} {args : Array Value} (hts : ∀ w ∈ GT, w.before args s = true) (hR : 1 + 1 ≤ R.frames ∧ 8 + (4 + 11) + 40 * 1 ≤ R.locals) : CallW R s args RX1 RX1 56 yX1_empty cX1_empty 4 (some .boolean) ((.code yX1_empty cX1_empty 4 (some .boolean) : Cond) :: GT) (rmD 1) 0 0 2 :=
  cwV 2 hts (show GoodIn GT (wsV RX1 56 RX1 yX1_empty ((.code yX1_empty cX1_empty 4 (some .boolean) : Cond) :: GT)) from lw_gin (lw_gin (lw_gin (lw_gin (lw_gin lw_self gw_217) gw_3) gw_303) gw_216) gw_215) rfl rfl rfl (by decide +kernel) hR
set_option maxRecDepth 100000 in
set_option maxHeartbeats 4000000 in
theorem cm_others (l : Launch) (D : va_G) (o : Nat → Nat) (cA : ClassId) (S : SX) (u b : Nat) (hu : u < 4) (hbb : b < 16) : mMi l D o cA yX1_others cX1_others 5 (some .int) 1 [.ref (o 0), .int (nI u), .int (nI b)] S (S) (nI (mOtF S u b 4 0 0)) := by
  intro sz
  refine m_met (by decide) rfl (Nat.le_of_ble_eq_true rfl) ?_
  intro P0 e s m below meth c ls hsz hx hb hml hr hlocks hown hts hl hw
  subst hsz
  have hl : lv_has ls 5 [(0, .ref (o 0)), (1, .int (nI u)), (2, .int (nI b))] := hl
  have loop : ∀ (n k : Nat), n + k = 4 → ∀ (t : Nat) (H : Heap) (locs : List Loc) (ls : Array Slot), lv_has ls 5 [(4, .int (nI k)), (3, .int (nI t)), (0, .ref (o 0)), (1, .int (nI u)), (2, .int (nI b))] → mW D o cA (mA o s.heap.size) s s.heap S H locs → mOtF S u b n k t = mOtF S u b 4 0 0 → W P0 l e (rmD 1) s m ([.ref (o 0), .int (nI u), .int (nI b)]).toArray below meth c H locs 0 0 (MQ below (mQi D o cA s.heap.size (S) (nI (mOtF S u b 4 0 0))) ([.ref (o 0), .int (nI u), .int (nI b)]).toArray s 0 0 (mA o s.heap.size)) (F0 m 5 ls []) := by
    intro n
    induction n with
    | zero =>
      intro k hk t H locs ls hl hw hf
      obtain rfl : k = 4 := by omega
      refine lv_iload hx hb dX1_others_5 (lv_at hl 0 rfl) ?_
      refine lv_iconst (v := 4) hx hb dX1_others_7 (by decide) ?_
      refine lv_icmp_ge (tgt := 36) hx hb dX1_others_8 (by decide) (fun _ => ?_) (fun h9 => absurd (by decide) h9)
      refine lv_iload_n hx hb dX1_others_36 rfl (lv_at hl 1 rfl) ?_
      exact m_reti hx hb hr hlocks hw ⟨by rw [← hf]; rfl, rfl⟩ dX1_others_37
    | succ n ih =>
      intro k hk t H locs ls hl hw hf
      refine lv_iload hx hb dX1_others_5 (lv_at hl 0 rfl) ?_
      refine lv_iconst (v := 4) hx hb dX1_others_7 (by decide) ?_
      refine lv_icmp_ge (tgt := 36) hx hb dX1_others_8 (by decide) (fun h9 => absurd h9 (nI_ge (a := k) (b := 4) (by omega) (by decide))) (fun _ => ?_)
      refine lv_iload hx hb dX1_others_11 (lv_at hl 0 rfl) ?_
      refine lv_iload_n hx hb dX1_others_13 rfl (lv_at hl 3 rfl) ?_
      refine lv_icmp_eq (tgt := 30) hx hb dX1_others_14 (by decide) (fun g1 => ?_) (fun g1 => ?_)
      · have g1 : k = u := (nI_eq (a := k) (b := u) (by omega) (by omega)).mp g1
        refine lv_iinc (k := 0) (v := nI (k + 1)) (lv' := [(4, .int (nI (k + 1))), (3, .int (nI t)), (0, .ref (o 0)), (1, .int (nI u)), (2, .int (nI b))]) hx hb dX1_others_30 hl rfl (lw_inc k 1) (by decide) rfl (fun ls hl => ?_)
        refine lv_goto (tgt := 5) hx hb dX1_others_33 (by decide) ?_
        exact ih (k + 1) (by omega) _ _ _ _ (lv_sub hl [0, 1, 2, 3, 4] rfl) hw (by rw [← hf]; simp [mOtF, g1])
      · have g1 : ¬ k = u := fun h9 => g1 ((nI_eq (a := k) (b := u) (by omega) (by omega)).mpr h9)
        refine lv_aload_n hx hb dX1_others_17 rfl (lv_at hl 2 rfl) ?_
        refine lv_iload hx hb dX1_others_18 (lv_at hl 0 rfl) ?_
        refine lv_iload_n hx hb dX1_others_20 rfl (lv_at hl 4 rfl) ?_
        refine m_ci (rest := []) ⟨hx, hb, hml, hown, hts⟩ (cm_stateOf l D o cA S k b (by omega) (by omega)) (cwm_stateOf hts ⟨by decide, by decide⟩) hw rfl hl.1 rfl (Nat.le_of_ble_eq_true rfl) dX1_others_21 ⟨Nat.zero_le _, Nat.zero_le _⟩ (fun H locs hw => ?_)
        refine lv_if_le (tgt := 30) hx hb dX1_others_24 (by decide) (fun g2 => ?_) (fun g2 => ?_)
        · refine lv_iinc (k := 0) (v := nI (k + 1)) (lv' := [(4, .int (nI (k + 1))), (3, .int (nI t)), (0, .ref (o 0)), (1, .int (nI u)), (2, .int (nI b))]) hx hb dX1_others_30 hl rfl (lw_inc k 1) (by decide) rfl (fun ls hl => ?_)
          refine lv_goto (tgt := 5) hx hb dX1_others_33 (by decide) ?_
          exact ih (k + 1) (by omega) _ _ _ _ (lv_sub hl [0, 1, 2, 3, 4] rfl) hw (by rw [← hf]; simp [mOtF, g1, g2])
        · refine lv_iinc (k := 1) (v := nI (t + 1)) (lv' := [(3, .int (nI (t + 1))), (4, .int (nI k)), (0, .ref (o 0)), (1, .int (nI u)), (2, .int (nI b))]) hx hb dX1_others_27 hl rfl (lw_inc t 1) (by decide) rfl (fun ls hl => ?_)
          refine lv_iinc (k := 1) (v := nI (k + 1)) (lv' := [(4, .int (nI (k + 1))), (3, .int (nI (t + 1))), (0, .ref (o 0)), (1, .int (nI u)), (2, .int (nI b))]) hx hb dX1_others_30 hl rfl (lw_inc k 1) (by decide) rfl (fun ls hl => ?_)
          refine lv_goto (tgt := 5) hx hb dX1_others_33 (by decide) ?_
          exact ih (k + 1) (by omega) _ _ _ _ (lv_sub hl [0, 1, 2, 3, 4] rfl) hw (by rw [← hf]; simp [mOtF, g1, g2])
  refine lv_iconst (v := 0) hx hb dX1_others_0 (by decide) ?_
  refine lv_istore_n (lv' := [(3, .int 0), (0, .ref (o 0)), (1, .int (nI u)), (2, .int (nI b))]) hx hb dX1_others_1 rfl hl (by decide) rfl (fun ls hl => ?_)
  refine lv_iconst (v := 0) hx hb dX1_others_2 (by decide) ?_
  refine lv_istore (lv' := [(4, .int 0), (3, .int 0), (0, .ref (o 0)), (1, .int (nI u)), (2, .int (nI b))]) hx hb dX1_others_3 hl (by decide) rfl (fun ls hl => ?_)
  exact loop 4 0 rfl 0 _ _ _ (lv_sub hl [0, 1, 2, 3, 4] rfl) hw rfl
theorem cwm_others {R : Room} {s : State} {args : Array Value} (hts : ∀ w ∈ GT, w.before args s = true) (hR : 1 + 1 ≤ R.frames ∧ 8 + (5 + 11) + 40 * 1 ≤ R.locals) : CallW R s args RX1 RX1 67 yX1_others cX1_others 5 (some .int) ((.code yX1_others cX1_others 5 (some .int) : Cond) :: GT) (rmD 1) 0 0 2 :=
  cwV 2 hts (show GoodIn GT (wsV RX1 67 RX1 yX1_others ((.code yX1_others cX1_others 5 (some .int) : Cond) :: GT)) from lw_gin (lw_gin (lw_gin (lw_gin (lw_gin lw_self gw_235) gw_3) gw_309) gw_234) gw_233) rfl rfl rfl (by decide +kernel) hR
set_option maxRecDepth 100000 in
set_option maxHeartbeats 4000000 in
theorem cm_dirtyHolder (l : Launch) (D : va_G) (o : Nat → Nat) (cA : ClassId) (S : SX) (b : Nat) (hbb : b < 16) : mMi l D o cA yX1_dirtyHolder cX1_dirtyHolder 3 (some .int) 1 [.ref (o 0), .int (nI b)] S (S) (mDhF S b 4 0) := by
  intro sz
  refine m_met (by decide) rfl (Nat.le_of_ble_eq_true rfl) ?_
  intro P0 e s m below meth c ls hsz hx hb hml hr hlocks hown hts hl hw
  subst hsz
  have hl : lv_has ls 3 [(0, .ref (o 0)), (1, .int (nI b))] := hl
  have loop : ∀ (n k : Nat), n + k = 4 → ∀  (H : Heap) (locs : List Loc) (ls : Array Slot), lv_has ls 3 [(2, .int (nI k)), (0, .ref (o 0)), (1, .int (nI b))] → mW D o cA (mA o s.heap.size) s s.heap S H locs → mDhF S b n k = mDhF S b 4 0 → W P0 l e (rmD 1) s m ([.ref (o 0), .int (nI b)]).toArray below meth c H locs 0 0 (MQ below (mQi D o cA s.heap.size (S) (mDhF S b 4 0)) ([.ref (o 0), .int (nI b)]).toArray s 0 0 (mA o s.heap.size)) (F0 m 2 ls []) := by
    intro n
    induction n with
    | zero =>
      intro k hk H locs ls hl hw hf
      obtain rfl : k = 4 := by omega
      refine lv_iload_n hx hb dX1_dirtyHolder_2 rfl (lv_at hl 0 rfl) ?_
      refine lv_iconst (v := 4) hx hb dX1_dirtyHolder_3 (by decide) ?_
      refine lv_icmp_ge (tgt := 25) hx hb dX1_dirtyHolder_4 (by decide) (fun _ => ?_) (fun h9 => absurd (by decide) h9)
      refine lv_iconst (v := -1) hx hb dX1_dirtyHolder_25 (by decide) ?_
      exact m_reti hx hb hr hlocks hw ⟨by rw [← hf]; rfl, rfl⟩ dX1_dirtyHolder_26
    | succ n ih =>
      intro k hk H locs ls hl hw hf
      refine lv_iload_n hx hb dX1_dirtyHolder_2 rfl (lv_at hl 0 rfl) ?_
      refine lv_iconst (v := 4) hx hb dX1_dirtyHolder_3 (by decide) ?_
      refine lv_icmp_ge (tgt := 25) hx hb dX1_dirtyHolder_4 (by decide) (fun h9 => absurd h9 (nI_ge (a := k) (b := 4) (by omega) (by decide))) (fun _ => ?_)
      refine lv_aload_n hx hb dX1_dirtyHolder_7 rfl (lv_at hl 1 rfl) ?_
      refine lv_iload_n hx hb dX1_dirtyHolder_8 rfl (lv_at hl 0 rfl) ?_
      refine lv_iload_n hx hb dX1_dirtyHolder_9 rfl (lv_at hl 2 rfl) ?_
      refine m_ci (rest := []) ⟨hx, hb, hml, hown, hts⟩ (cm_stateOf l D o cA S k b (by omega) (by omega)) (cwm_stateOf hts ⟨by decide, by decide⟩) hw rfl hl.1 rfl (Nat.le_of_ble_eq_true rfl) dX1_dirtyHolder_10 ⟨Nat.zero_le _, Nat.zero_le _⟩ (fun H locs hw => ?_)
      refine lv_iconst (v := 3) hx hb dX1_dirtyHolder_13 (by decide) ?_
      refine lv_icmp_lt (tgt := 19) hx hb dX1_dirtyHolder_14 (by decide) (fun g1 => ?_) (fun g1 => ?_)
      · refine lv_iinc (k := 0) (v := nI (k + 1)) (lv' := [(2, .int (nI (k + 1))), (0, .ref (o 0)), (1, .int (nI b))]) hx hb dX1_dirtyHolder_19 hl rfl (lw_inc k 1) (by decide) rfl (fun ls hl => ?_)
        refine lv_goto (tgt := 2) hx hb dX1_dirtyHolder_22 (by decide) ?_
        exact ih (k + 1) (by omega) _ _ _ (lv_sub hl [0, 1, 2] rfl) hw (by rw [← hf]; simp [mDhF, mDi, g1])
      · refine lv_iload_n hx hb dX1_dirtyHolder_17 rfl (lv_at hl 0 rfl) ?_
        exact m_reti hx hb hr hlocks hw ⟨by rw [← hf]; simp [mDhF, mDi, g1], rfl⟩ dX1_dirtyHolder_18
  refine lv_iconst (v := 0) hx hb dX1_dirtyHolder_0 (by decide) ?_
  refine lv_istore_n (lv' := [(2, .int 0), (0, .ref (o 0)), (1, .int (nI b))]) hx hb dX1_dirtyHolder_1 rfl hl (by decide) rfl (fun ls hl => ?_)
  exact loop 4 0 rfl _ _ _ (lv_sub hl [0, 1, 2] rfl) hw rfl
theorem cwm_dirtyHolder {R : Room} {s : State} {args : Array Value} (hts : ∀ w ∈ GT, w.before args s = true) (hR : 1 + 1 ≤ R.frames ∧ 8 + (3 + 11) + 40 * 1 ≤ R.locals) : CallW R s args RX1 RX1 60 yX1_dirtyHolder cX1_dirtyHolder 3 (some .int) ((.code yX1_dirtyHolder cX1_dirtyHolder 3 (some .int) : Cond) :: GT) (rmD 1) 0 0 1 :=
  cwV 1 hts (show GoodIn GT (wsV RX1 60 RX1 yX1_dirtyHolder ((.code yX1_dirtyHolder cX1_dirtyHolder 3 (some .int) : Cond) :: GT)) from lw_gin (lw_gin (lw_gin (lw_gin (lw_gin lw_self gw_229) gw_3) gw_307) gw_228) gw_227) rfl rfl rfl (by decide +kernel) hR
set_option maxRecDepth 100000 in
set_option maxHeartbeats 4000000 in
theorem cm_emptyOthers (l : Launch) (D : va_G) (o : Nat → Nat) (cA : ClassId) (S : SX) (u b : Nat) (hu : u < 4) (hbb : b < 16) : mMv l D o cA yX1_emptyOthers cX1_emptyOthers 4 1 [.ref (o 0), .int (nI u), .int (nI b)] S (mEoF u b 4 0 S) := by
  intro sz
  refine m_met (by decide) rfl (Nat.le_of_ble_eq_true rfl) ?_
  intro P0 e s m below meth c ls hsz hx hb hml hr hlocks hown hts hl hw
  subst hsz
  have hl : lv_has ls 4 [(0, .ref (o 0)), (1, .int (nI u)), (2, .int (nI b))] := hl
  have loop : ∀ (n k : Nat), n + k = 4 → ∀ (S' : SX) (H : Heap) (locs : List Loc) (ls : Array Slot), lv_has ls 4 [(3, .int (nI k)), (0, .ref (o 0)), (1, .int (nI u)), (2, .int (nI b))] → mW D o cA (mA o s.heap.size) s s.heap S' H locs → mEoF u b n k S' = mEoF u b 4 0 S → W P0 l e (rmD 1) s m ([.ref (o 0), .int (nI u), .int (nI b)]).toArray below meth c H locs 0 0 (MQ below (mQv D o cA s.heap.size (mEoF u b 4 0 S)) ([.ref (o 0), .int (nI u), .int (nI b)]).toArray s 0 0 (mA o s.heap.size)) (F0 m 2 ls []) := by
    intro n
    induction n with
    | zero =>
      intro k hk S' H locs ls hl hw hf
      obtain rfl : k = 4 := by omega
      refine lv_iload_n hx hb dX1_emptyOthers_2 rfl (lv_at hl 0 rfl) ?_
      refine lv_iconst (v := 4) hx hb dX1_emptyOthers_3 (by decide) ?_
      refine lv_icmp_ge (tgt := 25) hx hb dX1_emptyOthers_4 (by decide) (fun _ => ?_) (fun h9 => absurd (by decide) h9)
      exact m_retv hx hb hr hlocks hw (by rw [← hf]; rfl) dX1_emptyOthers_25
    | succ n ih =>
      intro k hk S' H locs ls hl hw hf
      refine lv_iload_n hx hb dX1_emptyOthers_2 rfl (lv_at hl 0 rfl) ?_
      refine lv_iconst (v := 4) hx hb dX1_emptyOthers_3 (by decide) ?_
      refine lv_icmp_ge (tgt := 25) hx hb dX1_emptyOthers_4 (by decide) (fun h9 => absurd h9 (nI_ge (a := k) (b := 4) (by omega) (by decide))) (fun _ => ?_)
      refine lv_iload_n hx hb dX1_emptyOthers_7 rfl (lv_at hl 0 rfl) ?_
      refine lv_iload_n hx hb dX1_emptyOthers_8 rfl (lv_at hl 2 rfl) ?_
      refine lv_icmp_eq (tgt := 19) hx hb dX1_emptyOthers_9 (by decide) (fun g1 => ?_) (fun g1 => ?_)
      · have g1 : k = u := (nI_eq (a := k) (b := u) (by omega) (by omega)).mp g1
        refine lv_iinc (k := 0) (v := nI (k + 1)) (lv' := [(3, .int (nI (k + 1))), (0, .ref (o 0)), (1, .int (nI u)), (2, .int (nI b))]) hx hb dX1_emptyOthers_19 hl rfl (lw_inc k 1) (by decide) rfl (fun ls hl => ?_)
        refine lv_goto (tgt := 2) hx hb dX1_emptyOthers_22 (by decide) ?_
        exact ih (k + 1) (by omega) _ _ _ _ (lv_sub hl [0, 1, 2, 3] rfl) hw (by rw [← hf]; simp [mEoF, g1])
      · have g1 : ¬ k = u := fun h9 => g1 ((nI_eq (a := k) (b := u) (by omega) (by omega)).mpr h9)
        refine lv_aload_n hx hb dX1_emptyOthers_12 rfl (lv_at hl 1 rfl) ?_
        refine lv_iload_n hx hb dX1_emptyOthers_13 rfl (lv_at hl 0 rfl) ?_
        refine lv_iload_n hx hb dX1_emptyOthers_14 rfl (lv_at hl 3 rfl) ?_
        refine lv_iconst (v := 0) hx hb dX1_emptyOthers_15 (by decide) ?_
        refine m_cv (rest := []) ⟨hx, hb, hml, hown, hts⟩ (cm_setState l D o cA S' k b 0 (by omega) (by omega)) (cwm_setState hts ⟨by decide, by decide⟩) hw rfl hl.1 rfl (Nat.le_of_ble_eq_true rfl) dX1_emptyOthers_16 ⟨Nat.zero_le _, Nat.zero_le _⟩ (fun H locs hw => ?_)
        refine lv_iinc (k := 0) (v := nI (k + 1)) (lv' := [(3, .int (nI (k + 1))), (0, .ref (o 0)), (1, .int (nI u)), (2, .int (nI b))]) hx hb dX1_emptyOthers_19 hl rfl (lw_inc k 1) (by decide) rfl (fun ls hl => ?_)
        refine lv_goto (tgt := 2) hx hb dX1_emptyOthers_22 (by decide) ?_
        exact ih (k + 1) (by omega) _ _ _ _ (lv_sub hl [0, 1, 2, 3] rfl) hw (by rw [← hf]; simp [mEoF, g1])
  refine lv_iconst (v := 0) hx hb dX1_emptyOthers_0 (by decide) ?_
  refine lv_istore_n (lv' := [(3, .int 0), (0, .ref (o 0)), (1, .int (nI u)), (2, .int (nI b))]) hx hb dX1_emptyOthers_1 rfl hl (by decide) rfl (fun ls hl => ?_)
  exact loop 4 0 rfl _ _ _ _ (lv_sub hl [0, 1, 2, 3] rfl) hw rfl
theorem cwm_emptyOthers {R : Room} {s : State} {args : Array Value} (hts : ∀ w ∈ GT, w.before args s = true) (hR : 1 + 1 ≤ R.frames ∧ 8 + (4 + 11) + 40 * 1 ≤ R.locals) : CallW R s args RX1 RX1 64 yX1_emptyOthers cX1_emptyOthers 4 none ((.code yX1_emptyOthers cX1_emptyOthers 4 none : Cond) :: GT) (rmD 1) 0 0 2 :=
  cwV 2 hts (show GoodIn GT (wsV RX1 64 RX1 yX1_emptyOthers ((.code yX1_emptyOthers cX1_emptyOthers 4 none : Cond) :: GT)) from lw_gin (lw_gin (lw_gin (lw_gin (lw_gin lw_self gw_232) gw_3) gw_308) gw_231) gw_230) rfl rfl rfl (by decide +kernel) hR
set_option maxRecDepth 100000 in
set_option maxHeartbeats 4000000 in
theorem cm_load (l : Launch) (D : va_G) (o : Nat → Nat) (cA : ClassId) (S : SX) (u b k : Nat) (hu : u < 4) (hbb : b < 16) (hk : k < 2) : mMv l D o cA yX1_load cX1_load 9 2 [.ref (o 0), .int (nI u), .int (nI b), .int (nI k)] S (mLo S u b k) := by
  intro sz
  refine m_met (by decide) rfl (Nat.le_of_ble_eq_true rfl) ?_
  intro P0 e s m below meth c ls hsz hx hb hml hr hlocks hown hts hl hw
  subst hsz
  have hl : lv_has ls 9 [(0, .ref (o 0)), (1, .int (nI u)), (2, .int (nI b)), (3, .int (nI k))] := hl
  have loop : ∀ (al : Bool) (n k' : Nat), n + k' = 4 → ∀ (V : SX) (H : Heap) (locs : List Loc) (ls : Array Slot), lv_has ls 9 [(7, .int (nI k')), (6, .int (bI al)), (0, .ref (o 0)), (1, .int (nI u)), (2, .int (nI b))] → mW D o cA (mA o s.heap.size) s s.heap V H locs → mLoE al (mRlF u b n k' V) u b = mLo S u b k → W P0 l e (rmD 2) s m ([.ref (o 0), .int (nI u), .int (nI b), .int (nI k)]).toArray below meth c H locs 0 0 (MQ below (mQv D o cA s.heap.size (mLo S u b k)) ([.ref (o 0), .int (nI u), .int (nI b), .int (nI k)]).toArray s 0 0 (mA o s.heap.size)) (F0 m 175 ls []) := by
    intro al n
    induction n with
    | zero =>
      intro k' hk' V H locs ls hl hw hf
      obtain rfl : k' = 4 := by omega
      refine lv_iload hx hb dX1_load_175 (lv_at hl 0 rfl) ?_
      refine lv_iconst (v := 4) hx hb dX1_load_177 (by decide) ?_
      refine lv_icmp_ge (tgt := 260) hx hb dX1_load_178 (by decide) (fun _ => ?_) (fun h9 => absurd (by decide) h9)
      refine lv_aload_n hx hb dX1_load_260 rfl (lv_at hl 2 rfl) ?_
      refine lv_iload_n hx hb dX1_load_261 rfl (lv_at hl 3 rfl) ?_
      refine lv_iload_n hx hb dX1_load_262 rfl (lv_at hl 4 rfl) ?_
      refine lv_aload_n hx hb dX1_load_263 rfl (lv_at hl 2 rfl) ?_
      refine m_f0 hx hb hts hown hw dX1_load_264 ?_
      refine lv_if_le (tgt := 279) hx hb dX1_load_267 (by decide) (fun g1 => ?_) (fun g1 => ?_)
      · refine lv_iconst (v := 1) hx hb dX1_load_279 (by decide) ?_
        refine m_cv (rest := []) ⟨hx, hb, hml, hown, hts⟩ (cm_setState l D o cA V u b 1 (by omega) (by omega)) (cwm_setState hts ⟨by decide, by decide⟩) hw rfl hl.1 rfl (Nat.le_of_ble_eq_true rfl) dX1_load_280 ⟨Nat.zero_le _, Nat.zero_le _⟩ (fun H locs hw => ?_)
        exact m_retv hx hb hr hlocks hw (by rw [← hf]; simp [mRlF, mLoE, g1]) dX1_load_283
      · refine lv_iload hx hb dX1_load_270 (lv_at hl 1 rfl) ?_
        refine lv_if_eq (tgt := 279) hx hb dX1_load_272 (by decide) (fun g2 => ?_) (fun g2 => ?_)
        · have g2 := bI_z.mp g2
          refine lv_iconst (v := 1) hx hb dX1_load_279 (by decide) ?_
          refine m_cv (rest := []) ⟨hx, hb, hml, hown, hts⟩ (cm_setState l D o cA V u b 1 (by omega) (by omega)) (cwm_setState hts ⟨by decide, by decide⟩) hw rfl hl.1 rfl (Nat.le_of_ble_eq_true rfl) dX1_load_280 ⟨Nat.zero_le _, Nat.zero_le _⟩ (fun H locs hw => ?_)
          exact m_retv hx hb hr hlocks hw (by rw [← hf]; simp [mRlF, mLoE, g1, g2]) dX1_load_283
        · have g2 := bI_n.mp g2
          refine lv_iconst (v := 2) hx hb dX1_load_275 (by decide) ?_
          refine lv_goto (tgt := 280) hx hb dX1_load_276 (by decide) ?_
          refine m_cv (rest := []) ⟨hx, hb, hml, hown, hts⟩ (cm_setState l D o cA V u b 2 (by omega) (by omega)) (cwm_setState hts ⟨by decide, by decide⟩) hw rfl hl.1 rfl (Nat.le_of_ble_eq_true rfl) dX1_load_280 ⟨Nat.zero_le _, Nat.zero_le _⟩ (fun H locs hw => ?_)
          exact m_retv hx hb hr hlocks hw (by rw [← hf]; simp [mRlF, mLoE, g1, g2]) dX1_load_283
    | succ n ih =>
      intro k' hk' V H locs ls hl hw hf
      refine lv_iload hx hb dX1_load_175 (lv_at hl 0 rfl) ?_
      refine lv_iconst (v := 4) hx hb dX1_load_177 (by decide) ?_
      refine lv_icmp_ge (tgt := 260) hx hb dX1_load_178 (by decide) (fun h9 => absurd h9 (nI_ge (a := k') (b := 4) (by omega) (by decide))) (fun _ => ?_)
      refine lv_aload_n hx hb dX1_load_181 rfl (lv_at hl 2 rfl) ?_
      refine lv_iload hx hb dX1_load_182 (lv_at hl 0 rfl) ?_
      refine lv_iload_n hx hb dX1_load_184 rfl (lv_at hl 4 rfl) ?_
      refine m_ci (rest := []) ⟨hx, hb, hml, hown, hts⟩ (cm_stateOf l D o cA V k' b (by omega) (by omega)) (cwm_stateOf hts ⟨by decide, by decide⟩) hw rfl hl.1 rfl (Nat.le_of_ble_eq_true rfl) dX1_load_185 ⟨Nat.zero_le _, Nat.zero_le _⟩ (fun H locs hw => ?_)
      refine lv_istore (lv' := [(8, .int (V.1 0 (16 * k' + b))), (7, .int (nI k')), (6, .int (bI al)), (0, .ref (o 0)), (1, .int (nI u)), (2, .int (nI b))]) hx hb dX1_load_188 hl (by decide) rfl (fun ls hl => ?_)
      refine lv_iload hx hb dX1_load_190 (lv_at hl 1 rfl) ?_
      refine lv_iload_n hx hb dX1_load_192 rfl (lv_at hl 4 rfl) ?_
      refine lv_icmp_eq (tgt := 254) hx hb dX1_load_193 (by decide) (fun g3 => ?_) (fun g3 => ?_)
      · have g3 : k' = u := (nI_eq (a := k') (b := u) (by omega) (by omega)).mp g3
        refine lv_iinc (k := 1) (v := nI (k' + 1)) (lv' := [(7, .int (nI (k' + 1))), (8, .int (V.1 0 (16 * k' + b))), (6, .int (bI al)), (0, .ref (o 0)), (1, .int (nI u)), (2, .int (nI b))]) hx hb dX1_load_254 hl rfl (lw_inc k' 1) (by decide) rfl (fun ls hl => ?_)
        refine lv_goto (tgt := 175) hx hb dX1_load_257 (by decide) ?_
        exact ih (k' + 1) (by omega) _ _ _ _ (lv_sub hl [0, 2, 3, 4, 5] rfl) hw (by rw [← hf]; simp [mRlF, mRl1, g3])
      · have g3 : ¬ k' = u := fun h9 => g3 ((nI_eq (a := k') (b := u) (by omega) (by omega)).mpr h9)
        refine lv_iload hx hb dX1_load_196 (lv_at hl 0 rfl) ?_
        refine lv_if_ne (tgt := 204) hx hb dX1_load_198 (by decide) (fun g4 => ?_) (fun g4 => ?_)
        · refine lv_aload_n hx hb dX1_load_204 rfl (lv_at hl 3 rfl) ?_
          refine m_f0 hx hb hts hown hw dX1_load_205 ?_
          refine lv_iconst (v := 2) hx hb dX1_load_208 (by decide) ?_
          refine lv_icmp_ge (tgt := 223) hx hb dX1_load_209 (by decide) (fun g5 => ?_) (fun g5 => ?_)
          · refine lv_iload hx hb dX1_load_223 (lv_at hl 0 rfl) ?_
            refine lv_iconst (v := 4) hx hb dX1_load_225 (by decide) ?_
            refine lv_icmp_ne (tgt := 240) hx hb dX1_load_226 (by decide) (fun g6 => ?_) (fun g6 => ?_)
            · refine lv_iload hx hb dX1_load_240 (lv_at hl 0 rfl) ?_
              refine lv_iconst (v := 2) hx hb dX1_load_242 (by decide) ?_
              refine lv_icmp_ne (tgt := 254) hx hb dX1_load_243 (by decide) (fun g7 => ?_) (fun g7 => ?_)
              · refine lv_iinc (k := 1) (v := nI (k' + 1)) (lv' := [(7, .int (nI (k' + 1))), (8, .int (V.1 0 (16 * k' + b))), (6, .int (bI al)), (0, .ref (o 0)), (1, .int (nI u)), (2, .int (nI b))]) hx hb dX1_load_254 hl rfl (lw_inc k' 1) (by decide) rfl (fun ls hl => ?_)
                refine lv_goto (tgt := 175) hx hb dX1_load_257 (by decide) ?_
                exact ih (k' + 1) (by omega) _ _ _ _ (lv_sub hl [0, 2, 3, 4, 5] rfl) hw (by rw [← hf]; simp [mRlF, mRl1, g3, g4, g5, g6, g7])
              · refine lv_aload_n hx hb dX1_load_246 rfl (lv_at hl 3 rfl) ?_
                refine lv_iload hx hb dX1_load_247 (lv_at hl 1 rfl) ?_
                refine lv_iload_n hx hb dX1_load_249 rfl (lv_at hl 5 rfl) ?_
                refine lv_iconst (v := 1) hx hb dX1_load_250 (by decide) ?_
                refine m_cv (rest := []) ⟨hx, hb, hml, hown, hts⟩ (cm_setState l D o cA V k' b 1 (by omega) (by omega)) (cwm_setState hts ⟨by decide, by decide⟩) hw rfl hl.1 rfl (Nat.le_of_ble_eq_true rfl) dX1_load_251 ⟨Nat.zero_le _, Nat.zero_le _⟩ (fun H locs hw => ?_)
                refine lv_iinc (k := 1) (v := nI (k' + 1)) (lv' := [(7, .int (nI (k' + 1))), (8, .int (V.1 0 (16 * k' + b))), (6, .int (bI al)), (0, .ref (o 0)), (1, .int (nI u)), (2, .int (nI b))]) hx hb dX1_load_254 hl rfl (lw_inc k' 1) (by decide) rfl (fun ls hl => ?_)
                refine lv_goto (tgt := 175) hx hb dX1_load_257 (by decide) ?_
                exact ih (k' + 1) (by omega) _ _ _ _ (lv_sub hl [0, 2, 3, 4, 5] rfl) hw (by rw [← hf]; simp [mRlF, mRl1, g3, g4, g5, g6, g7])
            · refine lv_aload_n hx hb dX1_load_229 rfl (lv_at hl 3 rfl) ?_
              refine lv_iload hx hb dX1_load_230 (lv_at hl 1 rfl) ?_
              refine lv_iload_n hx hb dX1_load_232 rfl (lv_at hl 5 rfl) ?_
              refine lv_iconst (v := 3) hx hb dX1_load_233 (by decide) ?_
              refine m_cv (rest := []) ⟨hx, hb, hml, hown, hts⟩ (cm_setState l D o cA V k' b 3 (by omega) (by omega)) (cwm_setState hts ⟨by decide, by decide⟩) hw rfl hl.1 rfl (Nat.le_of_ble_eq_true rfl) dX1_load_234 ⟨Nat.zero_le _, Nat.zero_le _⟩ (fun H locs hw => ?_)
              refine lv_goto (tgt := 254) hx hb dX1_load_237 (by decide) ?_
              refine lv_iinc (k := 1) (v := nI (k' + 1)) (lv' := [(7, .int (nI (k' + 1))), (8, .int (V.1 0 (16 * k' + b))), (6, .int (bI al)), (0, .ref (o 0)), (1, .int (nI u)), (2, .int (nI b))]) hx hb dX1_load_254 hl rfl (lw_inc k' 1) (by decide) rfl (fun ls hl => ?_)
              refine lv_goto (tgt := 175) hx hb dX1_load_257 (by decide) ?_
              exact ih (k' + 1) (by omega) _ _ _ _ (lv_sub hl [0, 2, 3, 4, 5] rfl) hw (by rw [← hf]; simp [mRlF, mRl1, g3, g4, g5, g6])
          · refine lv_aload_n hx hb dX1_load_212 rfl (lv_at hl 3 rfl) ?_
            refine lv_iload hx hb dX1_load_213 (lv_at hl 1 rfl) ?_
            refine lv_iload_n hx hb dX1_load_215 rfl (lv_at hl 5 rfl) ?_
            refine lv_iconst (v := 1) hx hb dX1_load_216 (by decide) ?_
            refine m_cv (rest := []) ⟨hx, hb, hml, hown, hts⟩ (cm_setState l D o cA V k' b 1 (by omega) (by omega)) (cwm_setState hts ⟨by decide, by decide⟩) hw rfl hl.1 rfl (Nat.le_of_ble_eq_true rfl) dX1_load_217 ⟨Nat.zero_le _, Nat.zero_le _⟩ (fun H locs hw => ?_)
            refine lv_goto (tgt := 254) hx hb dX1_load_220 (by decide) ?_
            refine lv_iinc (k := 1) (v := nI (k' + 1)) (lv' := [(7, .int (nI (k' + 1))), (8, .int (V.1 0 (16 * k' + b))), (6, .int (bI al)), (0, .ref (o 0)), (1, .int (nI u)), (2, .int (nI b))]) hx hb dX1_load_254 hl rfl (lw_inc k' 1) (by decide) rfl (fun ls hl => ?_)
            refine lv_goto (tgt := 175) hx hb dX1_load_257 (by decide) ?_
            exact ih (k' + 1) (by omega) _ _ _ _ (lv_sub hl [0, 2, 3, 4, 5] rfl) hw (by rw [← hf]; simp [mRlF, mRl1, g3, g4, g5])
        · refine lv_goto (tgt := 254) hx hb dX1_load_201 (by decide) ?_
          refine lv_iinc (k := 1) (v := nI (k' + 1)) (lv' := [(7, .int (nI (k' + 1))), (8, .int (V.1 0 (16 * k' + b))), (6, .int (bI al)), (0, .ref (o 0)), (1, .int (nI u)), (2, .int (nI b))]) hx hb dX1_load_254 hl rfl (lw_inc k' 1) (by decide) rfl (fun ls hl => ?_)
          refine lv_goto (tgt := 175) hx hb dX1_load_257 (by decide) ?_
          exact ih (k' + 1) (by omega) _ _ _ _ (lv_sub hl [0, 2, 3, 4, 5] rfl) hw (by rw [← hf]; simp [mRlF, mRl1, g3, g4])
  have mid : ∀ (f : Int32) (U : SX) (H : Heap) (locs : List Loc) (ls : Array Slot), (f = -1 ∨ ∃ c9, c9 < 4 ∧ f = nI c9) → lv_has ls 9 [(5, .int f), (3, .int (nI k)), (0, .ref (o 0)), (1, .int (nI u)), (2, .int (nI b))] → mW D o cA (mA o s.heap.size) s s.heap U H locs → (if k = 1 then mSe (mEoF u b 4 0 U) u b 4 else mLoE (decide (mOtF U u b 4 0 0 = 0)) (mRlF u b 4 0 (mLoM f U b)) u b) = mLo S u b k → W P0 l e (rmD 2) s m ([.ref (o 0), .int (nI u), .int (nI b), .int (nI k)]).toArray below meth c H locs 0 0 (MQ below (mQv D o cA s.heap.size (mLo S u b k)) ([.ref (o 0), .int (nI u), .int (nI b), .int (nI k)]).toArray s 0 0 (mA o s.heap.size)) (F0 m 117 ls []) := by
    intro f U H locs ls hfr hl hw hf
    refine lv_iload_n hx hb dX1_load_117 rfl (lv_at hl 1 rfl) ?_
    refine lv_iconst (v := 1) hx hb dX1_load_118 (by decide) ?_
    refine lv_icmp_ne (tgt := 136) hx hb dX1_load_119 (by decide) (fun g8 => ?_) (fun g8 => ?_)
    · have g8 : ¬ k = 1 := fun h9 => g8 ((nI_eq (a := k) (b := 1) (by omega) (by omega)).mpr h9)
      refine lv_aload_n hx hb dX1_load_136 rfl (lv_at hl 2 rfl) ?_
      refine lv_iload_n hx hb dX1_load_137 rfl (lv_at hl 3 rfl) ?_
      refine lv_iload_n hx hb dX1_load_138 rfl (lv_at hl 4 rfl) ?_
      refine m_ci (rest := []) ⟨hx, hb, hml, hown, hts⟩ (cm_others l D o cA U u b (by omega) (by omega)) (cwm_others hts ⟨by decide, by decide⟩) hw rfl hl.1 rfl (Nat.le_of_ble_eq_true rfl) dX1_load_139 ⟨Nat.zero_le _, Nat.zero_le _⟩ (fun H locs hw => ?_)
      have hle := mOtF_le (S := U) (p := u) (b := b) 4 0 0
      refine lv_if_ne (tgt := 149) hx hb dX1_load_142 (by decide) (fun g9 => ?_) (fun g9 => ?_)
      · have g9 : ¬ mOtF U u b 4 0 0 = 0 := fun h9 => g9 ((nI_eq (a := mOtF U u b 4 0 0) (b := 0) (by omega) (by omega)).mpr h9)
        refine lv_iconst (v := 0) hx hb dX1_load_149 (by decide) ?_
        refine lv_istore (lv' := [(6, .int 0), (5, .int f), (3, .int (nI k)), (0, .ref (o 0)), (1, .int (nI u)), (2, .int (nI b))]) hx hb dX1_load_150 hl (by decide) rfl (fun ls hl => ?_)
        refine lv_aload_n hx hb dX1_load_152 rfl (lv_at hl 3 rfl) ?_
        refine m_f0 hx hb hts hown hw dX1_load_153 ?_
        refine lv_iconst (v := 2) hx hb dX1_load_156 (by decide) ?_
        refine lv_icmp_ge (tgt := 172) hx hb dX1_load_157 (by decide) (fun g10 => ?_) (fun g10 => ?_)
        · refine lv_iconst (v := 0) hx hb dX1_load_172 (by decide) ?_
          refine lv_istore (lv' := [(7, .int 0), (6, .int 0), (5, .int f), (3, .int (nI k)), (0, .ref (o 0)), (1, .int (nI u)), (2, .int (nI b))]) hx hb dX1_load_173 hl (by decide) rfl (fun ls hl => ?_)
          exact loop false 4 0 rfl _ _ _ _ (lv_sub hl [0, 1, 4, 5, 6] rfl) hw (by rw [if_neg g8] at hf; rw [← hf]; simp [mLoM, g8, g9, g10])
        · refine lv_iload hx hb dX1_load_160 (lv_at hl 1 rfl) ?_
          refine lv_if_lt (tgt := 172) hx hb dX1_load_162 (by decide) (fun g11 => ?_) (fun g11 => ?_)
          · refine lv_iconst (v := 0) hx hb dX1_load_172 (by decide) ?_
            refine lv_istore (lv' := [(7, .int 0), (6, .int 0), (5, .int f), (3, .int (nI k)), (0, .ref (o 0)), (1, .int (nI u)), (2, .int (nI b))]) hx hb dX1_load_173 hl (by decide) rfl (fun ls hl => ?_)
            exact loop false 4 0 rfl _ _ _ _ (lv_sub hl [0, 1, 4, 5, 6] rfl) hw (by rw [if_neg g8] at hf; rw [← hf]; simp [mLoM, g8, g9, g10, g11])
          · obtain ⟨c9, hc9, rfl⟩ : ∃ c9, c9 < 4 ∧ f = nI c9 := hfr.resolve_left (fun h8 => g11 (by rw [h8]; decide))
            refine lv_aload_n hx hb dX1_load_165 rfl (lv_at hl 3 rfl) ?_
            refine lv_iload hx hb dX1_load_166 (lv_at hl 1 rfl) ?_
            refine lv_iload_n hx hb dX1_load_168 rfl (lv_at hl 5 rfl) ?_
            refine m_cv (rest := []) ⟨hx, hb, hml, hown, hts⟩ (cm_toMemory l D o cA U c9 b (by omega) (by omega)) (cwm_toMemory hts ⟨by decide, by decide⟩) hw rfl hl.1 rfl (Nat.le_of_ble_eq_true rfl) dX1_load_169 ⟨Nat.zero_le _, Nat.zero_le _⟩ (fun H locs hw => ?_)
            refine lv_iconst (v := 0) hx hb dX1_load_172 (by decide) ?_
            refine lv_istore (lv' := [(7, .int 0), (6, .int 0), (5, .int (nI c9)), (3, .int (nI k)), (0, .ref (o 0)), (1, .int (nI u)), (2, .int (nI b))]) hx hb dX1_load_173 hl (by decide) rfl (fun ls hl => ?_)
            exact loop false 4 0 rfl _ _ _ _ (lv_sub hl [0, 1, 4, 5, 6] rfl) hw (by rw [if_neg g8] at hf; rw [← hf]; simp [mLoM, g8, g9, g10, g11, nI_clamp (show c9 < 2 ^ 31 by omega)])
      · have g9 : mOtF U u b 4 0 0 = 0 := (nI_eq (a := mOtF U u b 4 0 0) (b := 0) (by omega) (by omega)).mp g9
        refine lv_iconst (v := 1) hx hb dX1_load_145 (by decide) ?_
        refine lv_goto (tgt := 150) hx hb dX1_load_146 (by decide) ?_
        refine lv_istore (lv' := [(6, .int 1), (5, .int f), (3, .int (nI k)), (0, .ref (o 0)), (1, .int (nI u)), (2, .int (nI b))]) hx hb dX1_load_150 hl (by decide) rfl (fun ls hl => ?_)
        refine lv_aload_n hx hb dX1_load_152 rfl (lv_at hl 3 rfl) ?_
        refine m_f0 hx hb hts hown hw dX1_load_153 ?_
        refine lv_iconst (v := 2) hx hb dX1_load_156 (by decide) ?_
        refine lv_icmp_ge (tgt := 172) hx hb dX1_load_157 (by decide) (fun g12 => ?_) (fun g12 => ?_)
        · refine lv_iconst (v := 0) hx hb dX1_load_172 (by decide) ?_
          refine lv_istore (lv' := [(7, .int 0), (6, .int 1), (5, .int f), (3, .int (nI k)), (0, .ref (o 0)), (1, .int (nI u)), (2, .int (nI b))]) hx hb dX1_load_173 hl (by decide) rfl (fun ls hl => ?_)
          exact loop true 4 0 rfl _ _ _ _ (lv_sub hl [0, 1, 4, 5, 6] rfl) hw (by rw [if_neg g8] at hf; rw [← hf]; simp [mLoM, g8, g9, g12])
        · refine lv_iload hx hb dX1_load_160 (lv_at hl 1 rfl) ?_
          refine lv_if_lt (tgt := 172) hx hb dX1_load_162 (by decide) (fun g13 => ?_) (fun g13 => ?_)
          · refine lv_iconst (v := 0) hx hb dX1_load_172 (by decide) ?_
            refine lv_istore (lv' := [(7, .int 0), (6, .int 1), (5, .int f), (3, .int (nI k)), (0, .ref (o 0)), (1, .int (nI u)), (2, .int (nI b))]) hx hb dX1_load_173 hl (by decide) rfl (fun ls hl => ?_)
            exact loop true 4 0 rfl _ _ _ _ (lv_sub hl [0, 1, 4, 5, 6] rfl) hw (by rw [if_neg g8] at hf; rw [← hf]; simp [mLoM, g8, g9, g12, g13])
          · obtain ⟨c9, hc9, rfl⟩ : ∃ c9, c9 < 4 ∧ f = nI c9 := hfr.resolve_left (fun h8 => g13 (by rw [h8]; decide))
            refine lv_aload_n hx hb dX1_load_165 rfl (lv_at hl 3 rfl) ?_
            refine lv_iload hx hb dX1_load_166 (lv_at hl 1 rfl) ?_
            refine lv_iload_n hx hb dX1_load_168 rfl (lv_at hl 5 rfl) ?_
            refine m_cv (rest := []) ⟨hx, hb, hml, hown, hts⟩ (cm_toMemory l D o cA U c9 b (by omega) (by omega)) (cwm_toMemory hts ⟨by decide, by decide⟩) hw rfl hl.1 rfl (Nat.le_of_ble_eq_true rfl) dX1_load_169 ⟨Nat.zero_le _, Nat.zero_le _⟩ (fun H locs hw => ?_)
            refine lv_iconst (v := 0) hx hb dX1_load_172 (by decide) ?_
            refine lv_istore (lv' := [(7, .int 0), (6, .int 1), (5, .int (nI c9)), (3, .int (nI k)), (0, .ref (o 0)), (1, .int (nI u)), (2, .int (nI b))]) hx hb dX1_load_173 hl (by decide) rfl (fun ls hl => ?_)
            exact loop true 4 0 rfl _ _ _ _ (lv_sub hl [0, 1, 4, 5, 6] rfl) hw (by rw [if_neg g8] at hf; rw [← hf]; simp [mLoM, g8, g9, g12, g13, nI_clamp (show c9 < 2 ^ 31 by omega)])
    · have g8 : k = 1 := (nI_eq (a := k) (b := 1) (by omega) (by omega)).mp g8
      refine lv_aload_n hx hb dX1_load_122 rfl (lv_at hl 2 rfl) ?_
      refine lv_iload_n hx hb dX1_load_123 rfl (lv_at hl 3 rfl) ?_
      refine lv_iload_n hx hb dX1_load_124 rfl (lv_at hl 4 rfl) ?_
      refine m_cv (rest := []) ⟨hx, hb, hml, hown, hts⟩ (cm_emptyOthers l D o cA U u b (by omega) (by omega)) (cwm_emptyOthers hts ⟨by decide, by decide⟩) hw rfl hl.1 rfl (Nat.le_of_ble_eq_true rfl) dX1_load_125 ⟨Nat.zero_le _, Nat.zero_le _⟩ (fun H locs hw => ?_)
      refine lv_aload_n hx hb dX1_load_128 rfl (lv_at hl 2 rfl) ?_
      refine lv_iload_n hx hb dX1_load_129 rfl (lv_at hl 3 rfl) ?_
      refine lv_iload_n hx hb dX1_load_130 rfl (lv_at hl 4 rfl) ?_
      refine lv_iconst (v := 4) hx hb dX1_load_131 (by decide) ?_
      refine m_cv (rest := []) ⟨hx, hb, hml, hown, hts⟩ (cm_setState l D o cA (mEoF u b 4 0 U) u b 4 (by omega) (by omega)) (cwm_setState hts ⟨by decide, by decide⟩) hw rfl hl.1 rfl (Nat.le_of_ble_eq_true rfl) dX1_load_132 ⟨Nat.zero_le _, Nat.zero_le _⟩ (fun H locs hw => ?_)
      exact m_retv hx hb hr hlocks hw (by rw [if_pos g8] at hf; exact hf) dX1_load_135
  have cpy : ∀ (H : Heap) (locs : List Loc) (ls : Array Slot), lv_has ls 9 [(5, .int (mDhF (mLoT S u b k) b 4 0)), (3, .int (nI k)), (0, .ref (o 0)), (1, .int (nI u)), (2, .int (nI b))] → mW D o cA (mA o s.heap.size) s s.heap (mLoT S u b k) H locs → W P0 l e (rmD 2) s m ([.ref (o 0), .int (nI u), .int (nI b), .int (nI k)]).toArray below meth c H locs 0 0 (MQ below (mQv D o cA s.heap.size (mLo S u b k)) ([.ref (o 0), .int (nI u), .int (nI b), .int (nI k)]).toArray s 0 0 (mA o s.heap.size)) (F0 m 54 ls []) := by
    intro H locs ls hl hw
    have hfr := mDhF_nat (S := (mLoT S u b k)) (b := b) 4 0 (by omega)
    have hend : (if k = 1 then mSe (mEoF u b 4 0 (mLoU (mLoT S u b k) u b)) u b 4 else mLoE (decide (mOtF (mLoU (mLoT S u b k) u b) u b 4 0 0 = 0)) (mRlF u b 4 0 (mLoM (mDhF (mLoT S u b k) b 4 0) (mLoU (mLoT S u b k) u b) b)) u b) = mLo S u b k := rfl
    unfold mLoU at hend
    generalize mDhF (mLoT S u b k) b 4 0 = f at hl hfr hend
    rcases id hfr with rfl | ⟨c9, hc9, rfl⟩
    · refine lv_iconst (v := 0) hx hb dX1_load_54 (by decide) ?_
      refine lv_istore (lv' := [(6, .int 0), (5, .int (-1)), (3, .int (nI k)), (0, .ref (o 0)), (1, .int (nI u)), (2, .int (nI b))]) hx hb dX1_load_55 hl (by decide) rfl (fun ls hl => ?_)
      refine lv_iload hx hb dX1_load_57 (lv_at hl 0 rfl) ?_
      refine lv_iconst (v := 2) hx hb dX1_load_59 (by decide) ?_
      refine lv_icmp_ge (tgt := 117) hx hb dX1_load_60 (by decide) (fun h9 => absurd h9 (by decide)) (fun _ => ?_)
      refine lv_iconst (v := 2) hx hb dX1_load_63 (by decide) ?_
      refine lv_iload_n hx hb dX1_load_64 rfl (lv_at hl 5 rfl) ?_
      refine lv_imul hx hb dX1_load_65 ?_
      refine lw_top (y := nI (2 * b)) (pk_mul 2 b) ?_
      refine lv_iload hx hb dX1_load_66 (lv_at hl 0 rfl) ?_
      refine lv_iadd hx hb dX1_load_68 ?_
      refine lw_top (y := nI ((2 * b) + 0)) (nI_add (2 * b) 0) ?_
      refine lv_istore (lv' := [(7, .int (nI ((2 * b) + 0))), (6, .int 0), (5, .int (-1)), (3, .int (nI k)), (0, .ref (o 0)), (1, .int (nI u)), (2, .int (nI b))]) hx hb dX1_load_69 hl (by decide) rfl (fun ls hl => ?_)
      refine lv_aload_n hx hb dX1_load_71 rfl (lv_at hl 4 rfl) ?_
      refine m_g1 hx hb hts hown hw dX1_load_72 ?_
      refine lv_bipush (v := 32) hx hb dX1_load_75 (by decide) ?_
      refine lv_iload_n hx hb dX1_load_77 rfl (lv_at hl 5 rfl) ?_
      refine lv_imul hx hb dX1_load_78 ?_
      refine lw_top (y := nI (32 * u)) (pk_mul 32 u) ?_
      refine lv_iload hx hb dX1_load_79 (lv_at hl 0 rfl) ?_
      refine lv_iadd hx hb dX1_load_81 ?_
      refine lw_top (y := nI ((32 * u) + ((2 * b) + 0))) (nI_add (32 * u) ((2 * b) + 0)) ?_
      refine lv_iload hx hb dX1_load_82 (lv_at hl 2 rfl) ?_
      refine lv_if_lt (tgt := 103) hx hb dX1_load_84 (by decide) (fun _ => ?_) (fun h9 => absurd (by decide) h9)
      refine lv_aload_n hx hb dX1_load_103 rfl (lv_at hl 4 rfl) ?_
      refine m_g2 hx hb hts hown hw dX1_load_104 ?_
      refine lv_iload hx hb dX1_load_107 (lv_at hl 0 rfl) ?_
      refine m_l2 (n := (2 * b) + 0) hx hb hw (by omega) dX1_load_109 ?_
      refine m_s1 (n := (32 * u) + ((2 * b) + 0)) (x := ((mLoT S u b k).1 2 ((2 * b) + 0))) hx hb hw (by omega) dX1_load_110 (fun H locs hw => ?_)
      refine lv_iinc (k := 1) (v := nI (0 + 1)) (lv' := [(6, .int (nI (0 + 1))), (7, .int (nI ((2 * b) + 0))), (5, .int (-1)), (3, .int (nI k)), (0, .ref (o 0)), (1, .int (nI u)), (2, .int (nI b))]) hx hb dX1_load_111 hl rfl (lw_inc 0 1) (by decide) rfl (fun ls hl => ?_)
      refine lv_goto (tgt := 57) hx hb dX1_load_114 (by decide) ?_
      refine lv_iload hx hb dX1_load_57 (lv_at hl 0 rfl) ?_
      refine lv_iconst (v := 2) hx hb dX1_load_59 (by decide) ?_
      refine lv_icmp_ge (tgt := 117) hx hb dX1_load_60 (by decide) (fun h9 => absurd h9 (by decide)) (fun _ => ?_)
      refine lv_iconst (v := 2) hx hb dX1_load_63 (by decide) ?_
      refine lv_iload_n hx hb dX1_load_64 rfl (lv_at hl 6 rfl) ?_
      refine lv_imul hx hb dX1_load_65 ?_
      refine lw_top (y := nI (2 * b)) (pk_mul 2 b) ?_
      refine lv_iload hx hb dX1_load_66 (lv_at hl 0 rfl) ?_
      refine lv_iadd hx hb dX1_load_68 ?_
      refine lw_top (y := nI ((2 * b) + (0 + 1))) (nI_add (2 * b) (0 + 1)) ?_
      refine lv_istore (lv' := [(7, .int (nI ((2 * b) + (0 + 1)))), (6, .int (nI (0 + 1))), (5, .int (-1)), (3, .int (nI k)), (0, .ref (o 0)), (1, .int (nI u)), (2, .int (nI b))]) hx hb dX1_load_69 hl (by decide) rfl (fun ls hl => ?_)
      refine lv_aload_n hx hb dX1_load_71 rfl (lv_at hl 4 rfl) ?_
      refine m_g1 hx hb hts hown hw dX1_load_72 ?_
      refine lv_bipush (v := 32) hx hb dX1_load_75 (by decide) ?_
      refine lv_iload_n hx hb dX1_load_77 rfl (lv_at hl 5 rfl) ?_
      refine lv_imul hx hb dX1_load_78 ?_
      refine lw_top (y := nI (32 * u)) (pk_mul 32 u) ?_
      refine lv_iload hx hb dX1_load_79 (lv_at hl 0 rfl) ?_
      refine lv_iadd hx hb dX1_load_81 ?_
      refine lw_top (y := nI ((32 * u) + ((2 * b) + (0 + 1)))) (nI_add (32 * u) ((2 * b) + (0 + 1))) ?_
      refine lv_iload hx hb dX1_load_82 (lv_at hl 2 rfl) ?_
      refine lv_if_lt (tgt := 103) hx hb dX1_load_84 (by decide) (fun _ => ?_) (fun h9 => absurd (by decide) h9)
      refine lv_aload_n hx hb dX1_load_103 rfl (lv_at hl 4 rfl) ?_
      refine m_g2 hx hb hts hown hw dX1_load_104 ?_
      refine lv_iload hx hb dX1_load_107 (lv_at hl 0 rfl) ?_
      refine m_l2 (n := (2 * b) + (0 + 1)) hx hb hw (by omega) dX1_load_109 ?_
      refine m_s1 (n := (32 * u) + ((2 * b) + (0 + 1))) (x := ((zA (mLoT S u b k) 1 (upd ((mLoT S u b k).1 1) ((32 * u) + ((2 * b) + 0)) ((mLoT S u b k).1 2 ((2 * b) + 0)))).1 2 ((2 * b) + (0 + 1)))) hx hb hw (by omega) dX1_load_110 (fun H locs hw => ?_)
      refine lv_iinc (k := 1) (v := nI ((0 + 1) + 1)) (lv' := [(6, .int (nI ((0 + 1) + 1))), (7, .int (nI ((2 * b) + (0 + 1)))), (5, .int (-1)), (3, .int (nI k)), (0, .ref (o 0)), (1, .int (nI u)), (2, .int (nI b))]) hx hb dX1_load_111 hl rfl (lw_inc (0 + 1) 1) (by decide) rfl (fun ls hl => ?_)
      refine lv_goto (tgt := 57) hx hb dX1_load_114 (by decide) ?_
      refine lv_iload hx hb dX1_load_57 (lv_at hl 0 rfl) ?_
      refine lv_iconst (v := 2) hx hb dX1_load_59 (by decide) ?_
      refine lv_icmp_ge (tgt := 117) hx hb dX1_load_60 (by decide) (fun _ => ?_) (fun h9 => absurd (by decide) h9)
      exact mid (-1) _ _ _ _ hfr (lv_sub hl [2, 3, 4, 5, 6] rfl) hw (by rw [← hend]; simp [mCw, mCw1, zA_zA, zA_s, zA_n])
    · refine lv_iconst (v := 0) hx hb dX1_load_54 (by decide) ?_
      refine lv_istore (lv' := [(6, .int 0), (5, .int (nI c9)), (3, .int (nI k)), (0, .ref (o 0)), (1, .int (nI u)), (2, .int (nI b))]) hx hb dX1_load_55 hl (by decide) rfl (fun ls hl => ?_)
      refine lv_iload hx hb dX1_load_57 (lv_at hl 0 rfl) ?_
      refine lv_iconst (v := 2) hx hb dX1_load_59 (by decide) ?_
      refine lv_icmp_ge (tgt := 117) hx hb dX1_load_60 (by decide) (fun h9 => absurd h9 (by decide)) (fun _ => ?_)
      refine lv_iconst (v := 2) hx hb dX1_load_63 (by decide) ?_
      refine lv_iload_n hx hb dX1_load_64 rfl (lv_at hl 5 rfl) ?_
      refine lv_imul hx hb dX1_load_65 ?_
      refine lw_top (y := nI (2 * b)) (pk_mul 2 b) ?_
      refine lv_iload hx hb dX1_load_66 (lv_at hl 0 rfl) ?_
      refine lv_iadd hx hb dX1_load_68 ?_
      refine lw_top (y := nI ((2 * b) + 0)) (nI_add (2 * b) 0) ?_
      refine lv_istore (lv' := [(7, .int (nI ((2 * b) + 0))), (6, .int 0), (5, .int (nI c9)), (3, .int (nI k)), (0, .ref (o 0)), (1, .int (nI u)), (2, .int (nI b))]) hx hb dX1_load_69 hl (by decide) rfl (fun ls hl => ?_)
      refine lv_aload_n hx hb dX1_load_71 rfl (lv_at hl 4 rfl) ?_
      refine m_g1 hx hb hts hown hw dX1_load_72 ?_
      refine lv_bipush (v := 32) hx hb dX1_load_75 (by decide) ?_
      refine lv_iload_n hx hb dX1_load_77 rfl (lv_at hl 5 rfl) ?_
      refine lv_imul hx hb dX1_load_78 ?_
      refine lw_top (y := nI (32 * u)) (pk_mul 32 u) ?_
      refine lv_iload hx hb dX1_load_79 (lv_at hl 0 rfl) ?_
      refine lv_iadd hx hb dX1_load_81 ?_
      refine lw_top (y := nI ((32 * u) + ((2 * b) + 0))) (nI_add (32 * u) ((2 * b) + 0)) ?_
      refine lv_iload hx hb dX1_load_82 (lv_at hl 2 rfl) ?_
      refine lv_if_lt (tgt := 103) hx hb dX1_load_84 (by decide) (fun h9 => absurd h9 (nI_pos (by omega))) (fun _ => ?_)
      refine lv_aload_n hx hb dX1_load_87 rfl (lv_at hl 4 rfl) ?_
      refine m_g1 hx hb hts hown hw dX1_load_88 ?_
      refine lv_bipush (v := 32) hx hb dX1_load_91 (by decide) ?_
      refine lv_iload hx hb dX1_load_93 (lv_at hl 2 rfl) ?_
      refine lv_imul hx hb dX1_load_95 ?_
      refine lw_top (y := nI (32 * c9)) (pk_mul 32 c9) ?_
      refine lv_iload hx hb dX1_load_96 (lv_at hl 0 rfl) ?_
      refine lv_iadd hx hb dX1_load_98 ?_
      refine lw_top (y := nI ((32 * c9) + ((2 * b) + 0))) (nI_add (32 * c9) ((2 * b) + 0)) ?_
      refine m_l1 (n := (32 * c9) + ((2 * b) + 0)) hx hb hw (by omega) dX1_load_99 ?_
      refine lv_goto (tgt := 110) hx hb dX1_load_100 (by decide) ?_
      refine m_s1 (n := (32 * u) + ((2 * b) + 0)) (x := ((mLoT S u b k).1 1 ((32 * c9) + ((2 * b) + 0)))) hx hb hw (by omega) dX1_load_110 (fun H locs hw => ?_)
      refine lv_iinc (k := 1) (v := nI (0 + 1)) (lv' := [(6, .int (nI (0 + 1))), (7, .int (nI ((2 * b) + 0))), (5, .int (nI c9)), (3, .int (nI k)), (0, .ref (o 0)), (1, .int (nI u)), (2, .int (nI b))]) hx hb dX1_load_111 hl rfl (lw_inc 0 1) (by decide) rfl (fun ls hl => ?_)
      refine lv_goto (tgt := 57) hx hb dX1_load_114 (by decide) ?_
      refine lv_iload hx hb dX1_load_57 (lv_at hl 0 rfl) ?_
      refine lv_iconst (v := 2) hx hb dX1_load_59 (by decide) ?_
      refine lv_icmp_ge (tgt := 117) hx hb dX1_load_60 (by decide) (fun h9 => absurd h9 (by decide)) (fun _ => ?_)
      refine lv_iconst (v := 2) hx hb dX1_load_63 (by decide) ?_
      refine lv_iload_n hx hb dX1_load_64 rfl (lv_at hl 6 rfl) ?_
      refine lv_imul hx hb dX1_load_65 ?_
      refine lw_top (y := nI (2 * b)) (pk_mul 2 b) ?_
      refine lv_iload hx hb dX1_load_66 (lv_at hl 0 rfl) ?_
      refine lv_iadd hx hb dX1_load_68 ?_
      refine lw_top (y := nI ((2 * b) + (0 + 1))) (nI_add (2 * b) (0 + 1)) ?_
      refine lv_istore (lv' := [(7, .int (nI ((2 * b) + (0 + 1)))), (6, .int (nI (0 + 1))), (5, .int (nI c9)), (3, .int (nI k)), (0, .ref (o 0)), (1, .int (nI u)), (2, .int (nI b))]) hx hb dX1_load_69 hl (by decide) rfl (fun ls hl => ?_)
      refine lv_aload_n hx hb dX1_load_71 rfl (lv_at hl 4 rfl) ?_
      refine m_g1 hx hb hts hown hw dX1_load_72 ?_
      refine lv_bipush (v := 32) hx hb dX1_load_75 (by decide) ?_
      refine lv_iload_n hx hb dX1_load_77 rfl (lv_at hl 5 rfl) ?_
      refine lv_imul hx hb dX1_load_78 ?_
      refine lw_top (y := nI (32 * u)) (pk_mul 32 u) ?_
      refine lv_iload hx hb dX1_load_79 (lv_at hl 0 rfl) ?_
      refine lv_iadd hx hb dX1_load_81 ?_
      refine lw_top (y := nI ((32 * u) + ((2 * b) + (0 + 1)))) (nI_add (32 * u) ((2 * b) + (0 + 1))) ?_
      refine lv_iload hx hb dX1_load_82 (lv_at hl 2 rfl) ?_
      refine lv_if_lt (tgt := 103) hx hb dX1_load_84 (by decide) (fun h9 => absurd h9 (nI_pos (by omega))) (fun _ => ?_)
      refine lv_aload_n hx hb dX1_load_87 rfl (lv_at hl 4 rfl) ?_
      refine m_g1 hx hb hts hown hw dX1_load_88 ?_
      refine lv_bipush (v := 32) hx hb dX1_load_91 (by decide) ?_
      refine lv_iload hx hb dX1_load_93 (lv_at hl 2 rfl) ?_
      refine lv_imul hx hb dX1_load_95 ?_
      refine lw_top (y := nI (32 * c9)) (pk_mul 32 c9) ?_
      refine lv_iload hx hb dX1_load_96 (lv_at hl 0 rfl) ?_
      refine lv_iadd hx hb dX1_load_98 ?_
      refine lw_top (y := nI ((32 * c9) + ((2 * b) + (0 + 1)))) (nI_add (32 * c9) ((2 * b) + (0 + 1))) ?_
      refine m_l1 (n := (32 * c9) + ((2 * b) + (0 + 1))) hx hb hw (by omega) dX1_load_99 ?_
      refine lv_goto (tgt := 110) hx hb dX1_load_100 (by decide) ?_
      refine m_s1 (n := (32 * u) + ((2 * b) + (0 + 1))) (x := ((zA (mLoT S u b k) 1 (upd ((mLoT S u b k).1 1) ((32 * u) + ((2 * b) + 0)) ((mLoT S u b k).1 1 ((32 * c9) + ((2 * b) + 0))))).1 1 ((32 * c9) + ((2 * b) + (0 + 1))))) hx hb hw (by omega) dX1_load_110 (fun H locs hw => ?_)
      refine lv_iinc (k := 1) (v := nI ((0 + 1) + 1)) (lv' := [(6, .int (nI ((0 + 1) + 1))), (7, .int (nI ((2 * b) + (0 + 1)))), (5, .int (nI c9)), (3, .int (nI k)), (0, .ref (o 0)), (1, .int (nI u)), (2, .int (nI b))]) hx hb dX1_load_111 hl rfl (lw_inc (0 + 1) 1) (by decide) rfl (fun ls hl => ?_)
      refine lv_goto (tgt := 57) hx hb dX1_load_114 (by decide) ?_
      refine lv_iload hx hb dX1_load_57 (lv_at hl 0 rfl) ?_
      refine lv_iconst (v := 2) hx hb dX1_load_59 (by decide) ?_
      refine lv_icmp_ge (tgt := 117) hx hb dX1_load_60 (by decide) (fun _ => ?_) (fun h9 => absurd (by decide) h9)
      exact mid (nI c9) _ _ _ _ hfr (lv_sub hl [2, 3, 4, 5, 6] rfl) hw (by rw [← hend]; simp [mCw, mCw1, zA_zA, zA_s, zA_n, nI_clamp (show c9 < 2 ^ 31 by omega), nI_pos (show c9 < 2 ^ 31 by omega)])
  have ev : ∀ (n c9 : Nat), c9 + 2 * n = 16 + b % 2 → ∀ (S' : SX) (H : Heap) (locs : List Loc) (ls : Array Slot), lv_has ls 9 [(5, .int (nI c9)), (3, .int (nI k)), (0, .ref (o 0)), (1, .int (nI u)), (2, .int (nI b))] → mW D o cA (mA o s.heap.size) s s.heap S' H locs → mEvF u n c9 S' = mEvF u 8 (b % 2) S → W P0 l e (rmD 2) s m ([.ref (o 0), .int (nI u), .int (nI b), .int (nI k)]).toArray below meth c H locs 0 0 (MQ below (mQv D o cA s.heap.size (mLo S u b k)) ([.ref (o 0), .int (nI u), .int (nI b), .int (nI k)]).toArray s 0 0 (mA o s.heap.size)) (F0 m 8 ls []) := by
    intro n
    induction n with
    | zero =>
      intro c9 hc9 S' H locs ls hl hw hf
      refine lv_iload hx hb dX1_load_8 (lv_at hl 0 rfl) ?_
      refine lv_bipush (v := 16) hx hb dX1_load_10 (by decide) ?_
      refine lv_icmp_ge (tgt := 40) hx hb dX1_load_12 (by decide) (fun _ => ?_) (fun h9 => absurd (nI_le (a := 16) (b := c9) (by omega) (by omega)) h9)
      refine lv_aload_n hx hb dX1_load_40 rfl (lv_at hl 2 rfl) ?_
      refine lv_iload_n hx hb dX1_load_41 rfl (lv_at hl 1 rfl) ?_
      refine lv_iload_n hx hb dX1_load_42 rfl (lv_at hl 3 rfl) ?_
      refine lv_iload_n hx hb dX1_load_43 rfl (lv_at hl 4 rfl) ?_
      refine m_cv (rest := []) ⟨hx, hb, hml, hown, hts⟩ (cm_transact l D o cA S' k u b (by omega) (by omega) (by omega)) (cwm_transact hts ⟨by decide, by decide⟩) hw rfl hl.1 rfl (Nat.le_of_ble_eq_true rfl) dX1_load_44 ⟨Nat.zero_le _, Nat.zero_le _⟩ (fun H locs hw => ?_)
      have hw : mW D o cA (mA o s.heap.size) s s.heap (mLoT S u b k) H locs := by rw [mLoT, ← hf]; exact hw
      refine lv_aload_n hx hb dX1_load_47 rfl (lv_at hl 2 rfl) ?_
      refine lv_iload_n hx hb dX1_load_48 rfl (lv_at hl 4 rfl) ?_
      refine m_ci (rest := []) ⟨hx, hb, hml, hown, hts⟩ (cm_dirtyHolder l D o cA (mLoT S u b k) b (by omega)) (cwm_dirtyHolder hts ⟨by decide, by decide⟩) hw rfl hl.1 rfl (Nat.le_of_ble_eq_true rfl) dX1_load_49 ⟨Nat.zero_le _, Nat.zero_le _⟩ (fun H locs hw => ?_)
      refine lv_istore (lv' := [(5, .int (mDhF (mLoT S u b k) b 4 0)), (3, .int (nI k)), (0, .ref (o 0)), (1, .int (nI u)), (2, .int (nI b))]) hx hb dX1_load_52 hl (by decide) rfl (fun ls hl => ?_)
      exact cpy _ _ _ (lv_sub hl [0, 1, 2, 3, 4] rfl) hw
    | succ n ih =>
      intro c9 hc9 S' H locs ls hl hw hf
      refine lv_iload hx hb dX1_load_8 (lv_at hl 0 rfl) ?_
      refine lv_bipush (v := 16) hx hb dX1_load_10 (by decide) ?_
      refine lv_icmp_ge (tgt := 40) hx hb dX1_load_12 (by decide) (fun h9 => absurd h9 (nI_ge (a := c9) (b := 16) (by omega) (by decide))) (fun _ => ?_)
      refine lv_aload_n hx hb dX1_load_15 rfl (lv_at hl 2 rfl) ?_
      refine lv_iload_n hx hb dX1_load_16 rfl (lv_at hl 3 rfl) ?_
      refine lv_iload hx hb dX1_load_17 (lv_at hl 0 rfl) ?_
      refine m_ci (rest := []) ⟨hx, hb, hml, hown, hts⟩ (cm_stateOf l D o cA S' u c9 (by omega) (by omega)) (cwm_stateOf hts ⟨by decide, by decide⟩) hw rfl hl.1 rfl (Nat.le_of_ble_eq_true rfl) dX1_load_19 ⟨Nat.zero_le _, Nat.zero_le _⟩ (fun H locs hw => ?_)
      refine lv_if_le (tgt := 34) hx hb dX1_load_22 (by decide) (fun g14 => ?_) (fun g14 => ?_)
      · refine lv_iinc (k := 0) (v := nI (c9 + 2)) (lv' := [(5, .int (nI (c9 + 2))), (3, .int (nI k)), (0, .ref (o 0)), (1, .int (nI u)), (2, .int (nI b))]) hx hb dX1_load_34 hl rfl (lw_inc c9 2) (by decide) rfl (fun ls hl => ?_)
        refine lv_goto (tgt := 8) hx hb dX1_load_37 (by decide) ?_
        exact ih (c9 + 2) (by omega) _ _ _ _ (lv_sub hl [0, 1, 2, 3, 4] rfl) hw (by rw [← hf]; simp [mEvF, mEv1, g14])
      · refine lv_aload_n hx hb dX1_load_25 rfl (lv_at hl 2 rfl) ?_
        refine lv_iload_n hx hb dX1_load_26 rfl (lv_at hl 3 rfl) ?_
        refine lv_iload hx hb dX1_load_27 (lv_at hl 0 rfl) ?_
        refine m_ci (rest := []) ⟨hx, hb, hml, hown, hts⟩ (cm_empty l D o cA S' u c9 (by omega) (by omega)) (cwm_empty hts ⟨by decide, by decide⟩) hw rfl hl.1 rfl (Nat.le_of_ble_eq_true rfl) dX1_load_29 ⟨Nat.zero_le _, Nat.zero_le _⟩ (fun H locs hw => ?_)
        refine lv_istore (lv' := [(4, .int (bI (mDi (S'.1 0 (16 * u + c9))))), (5, .int (nI c9)), (3, .int (nI k)), (0, .ref (o 0)), (1, .int (nI u)), (2, .int (nI b))]) hx hb dX1_load_32 hl (by decide) rfl (fun ls hl => ?_)
        refine lv_iinc (k := 1) (v := nI (c9 + 2)) (lv' := [(5, .int (nI (c9 + 2))), (4, .int (bI (mDi (S'.1 0 (16 * u + c9))))), (3, .int (nI k)), (0, .ref (o 0)), (1, .int (nI u)), (2, .int (nI b))]) hx hb dX1_load_34 hl rfl (lw_inc c9 2) (by decide) rfl (fun ls hl => ?_)
        refine lv_goto (tgt := 8) hx hb dX1_load_37 (by decide) ?_
        exact ih (c9 + 2) (by omega) _ _ _ _ (lv_sub hl [0, 2, 3, 4, 5] rfl) hw (by rw [← hf]; simp [mEvF, mEv1, g14])
  refine lv_iconst (v := 0) hx hb dX1_load_0 (by decide) ?_
  refine lv_istore (lv' := [(4, .int 0), (0, .ref (o 0)), (1, .int (nI u)), (2, .int (nI b)), (3, .int (nI k))]) hx hb dX1_load_1 hl (by decide) rfl (fun ls hl => ?_)
  refine lv_iload_n hx hb dX1_load_3 rfl (lv_at hl 3 rfl) ?_
  refine lv_iconst (v := 2) hx hb dX1_load_4 (by decide) ?_
  refine lv_irem hx hb dX1_load_5 (by decide) ?_
  refine lw_top (y := nI (b % 2)) (pk_rem (a := b) (d := 2) (by omega) (by decide) (by decide)) ?_
  refine lv_istore (lv' := [(5, .int (nI (b % 2))), (4, .int 0), (0, .ref (o 0)), (1, .int (nI u)), (2, .int (nI b)), (3, .int (nI k))]) hx hb dX1_load_6 hl (by decide) rfl (fun ls hl => ?_)
  exact ev 8 (b % 2) (by omega) _ _ _ _ (lv_sub hl [0, 5, 2, 3, 4] rfl) hw rfl
theorem cwm_load {R : Room} {s : State} {args : Array Value} (hts : ∀ w ∈ GT, w.before args s = true) (hR : 2 + 1 ≤ R.frames ∧ 8 + (9 + 11) + 40 * 2 ≤ R.locals) : CallW R s args RX1 RX1 76 yX1_load cX1_load 9 none ((.code yX1_load cX1_load 9 none : Cond) :: GT) (rmD 2) 0 0 3 :=
  cwV 3 hts (show GoodIn GT (wsV RX1 76 RX1 yX1_load ((.code yX1_load cX1_load 9 none : Cond) :: GT)) from lw_gin (lw_gin (lw_gin (lw_gin (lw_gin lw_self gw_214) gw_3) gw_302) gw_213) gw_212) rfl rfl rfl (by decide +kernel) hR
set_option maxRecDepth 100000 in
set_option maxHeartbeats 4000000 in
theorem cm_hit (l : Launch) (D : va_G) (o : Nat → Nat) (cA : ClassId) (S : SX) (u b : Nat) (hu : u < 4) (hbb : b < 16) : mMi l D o cA yX1_hit cX1_hit 4 (some .boolean) 1 [.ref (o 0), .int (nI u), .int (nI b)] S (mHi S u b) (bI (mHo S u b)) := by
  intro sz
  refine m_met (by decide) rfl (Nat.le_of_ble_eq_true rfl) ?_
  intro P0 e s m below meth c ls hsz hx hb hml hr hlocks hown hts hl hw
  subst hsz
  have hl : lv_has ls 4 [(0, .ref (o 0)), (1, .int (nI u)), (2, .int (nI b))] := hl
  refine lv_aload_n hx hb dX1_hit_0 rfl (lv_at hl 0 rfl) ?_
  refine lv_iload_n hx hb dX1_hit_1 rfl (lv_at hl 1 rfl) ?_
  refine lv_iload_n hx hb dX1_hit_2 rfl (lv_at hl 2 rfl) ?_
  refine m_ci (rest := []) ⟨hx, hb, hml, hown, hts⟩ (cm_stateOf l D o cA S u b (by omega) (by omega)) (cwm_stateOf hts ⟨by decide, by decide⟩) hw rfl hl.1 rfl (Nat.le_of_ble_eq_true rfl) dX1_hit_3 ⟨Nat.zero_le _, Nat.zero_le _⟩ (fun H locs hw => ?_)
  refine lv_if_le (tgt := 13) hx hb dX1_hit_6 (by decide) (fun g1 => ?_) (fun g1 => ?_)
  · refine lv_iconst (v := 0) hx hb dX1_hit_13 (by decide) ?_
    refine lv_istore_n (lv' := [(3, .int 0), (0, .ref (o 0)), (1, .int (nI u)), (2, .int (nI b))]) hx hb dX1_hit_14 rfl hl (by decide) rfl (fun ls hl => ?_)
    refine lv_iload_n hx hb dX1_hit_15 rfl (lv_at hl 0 rfl) ?_
    refine lv_if_eq (tgt := 32) hx hb dX1_hit_16 (by decide) (fun _ => ?_) (fun h9 => absurd (by decide) h9)
    refine lv_aload_n hx hb dX1_hit_32 rfl (lv_at hl 1 rfl) ?_
    refine lv_dup hx hb dX1_hit_33 rfl ?_
    refine m_f3 hx hb hts hown hw dX1_hit_34 ?_
    refine lv_iconst (v := 1) hx hb dX1_hit_37 (by decide) ?_
    refine lv_iadd hx hb dX1_hit_38 ?_
    refine m_p3 (x := ((S.2 3) + 1)) hx hb hts hown hw dX1_hit_39 (fun H locs hw => ?_)
    refine lv_iload_n hx hb dX1_hit_42 rfl (lv_at hl 0 rfl) ?_
    exact m_retz hx hb hr hlocks hw ⟨by simp [mHo, bI, g1], by simp [mHi, mHo, g1]⟩ dX1_hit_43
  · refine lv_iconst (v := 1) hx hb dX1_hit_9 (by decide) ?_
    refine lv_goto (tgt := 14) hx hb dX1_hit_10 (by decide) ?_
    refine lv_istore_n (lv' := [(3, .int 1), (0, .ref (o 0)), (1, .int (nI u)), (2, .int (nI b))]) hx hb dX1_hit_14 rfl hl (by decide) rfl (fun ls hl => ?_)
    refine lv_iload_n hx hb dX1_hit_15 rfl (lv_at hl 0 rfl) ?_
    refine lv_if_eq (tgt := 32) hx hb dX1_hit_16 (by decide) (fun h9 => absurd h9 (by decide)) (fun _ => ?_)
    refine lv_aload_n hx hb dX1_hit_19 rfl (lv_at hl 1 rfl) ?_
    refine lv_dup hx hb dX1_hit_20 rfl ?_
    refine m_f2 hx hb hts hown hw dX1_hit_21 ?_
    refine lv_iconst (v := 1) hx hb dX1_hit_24 (by decide) ?_
    refine lv_iadd hx hb dX1_hit_25 ?_
    refine m_p2 (x := ((S.2 2) + 1)) hx hb hts hown hw dX1_hit_26 (fun H locs hw => ?_)
    refine lv_goto (tgt := 42) hx hb dX1_hit_29 (by decide) ?_
    refine lv_iload_n hx hb dX1_hit_42 rfl (lv_at hl 0 rfl) ?_
    exact m_retz hx hb hr hlocks hw ⟨by simp [mHo, bI, g1], by simp [mHi, mHo, g1]⟩ dX1_hit_43
theorem cwm_hit {R : Room} {s : State} {args : Array Value} (hts : ∀ w ∈ GT, w.before args s = true) (hR : 1 + 1 ≤ R.frames ∧ 8 + (4 + 11) + 40 * 1 ≤ R.locals) : CallW R s args RX1 RX1 73 yX1_hit cX1_hit 4 (some .boolean) ((.code yX1_hit cX1_hit 4 (some .boolean) : Cond) :: GT) (rmD 1) 0 0 2 :=
  cwV 2 hts (show GoodIn GT (wsV RX1 73 RX1 yX1_hit ((.code yX1_hit cX1_hit 4 (some .boolean) : Cond) :: GT)) from lw_gin (lw_gin (lw_gin (lw_gin (lw_gin lw_self gw_208) gw_3) gw_300) gw_207) gw_206) rfl rfl rfl (by decide +kernel) hR
set_option maxRecDepth 100000 in
set_option maxHeartbeats 4000000 in
theorem cm_read_bad (l : Launch) (D : va_G) (o : Nat → Nat) (cA : ClassId) (S : SX) (x y : Int32) (hbad : (inW x 3 && inW y 31) = false) : mMi l D o cA yX1_read cX1_read 4 (some .int) 1 [.ref (o 0), .int x, .int y] S (zF S 4 1) (0) := by
  intro sz
  refine m_met (by decide) rfl (Nat.le_of_ble_eq_true rfl) ?_
  intro P0 e s m below meth c ls hsz hx hb hml hr hlocks hown hts hl hw
  subst hsz
  have hl : lv_has ls 4 [(0, .ref (o 0)), (1, .int x), (2, .int y)] := hl
  refine lv_aload_n hx hb dX1_read_0 rfl (lv_at hl 0 rfl) ?_
  refine lv_iload_n hx hb dX1_read_1 rfl (lv_at hl 1 rfl) ?_
  refine lv_iconst (v := 3) hx hb dX1_read_2 (by decide) ?_
  refine m_cs (rest := [.ref (o 0)]) ⟨hx, hb, hml, hown, hts⟩ (cm_within l x 3) (cwm_within hts ⟨by decide, by decide⟩) hw rfl hl.1 rfl (Nat.le_of_ble_eq_true rfl) dX1_read_3 ⟨Nat.zero_le _, Nat.zero_le _⟩ (fun H locs hw => ?_)
  refine lv_if_eq (tgt := 22) hx hb dX1_read_6 (by decide) (fun g1 => ?_) (fun g1 => ?_)
  · have g1 := bI_z.mp g1
    refine lv_iconst (v := 1) hx hb dX1_read_22 (by decide) ?_
    refine m_p4 (x := 1) hx hb hts hown hw dX1_read_23 (fun H locs hw => ?_)
    refine lv_aload_n hx hb dX1_read_26 rfl (lv_at hl 0 rfl) ?_
    refine m_f4 hx hb hts hown hw dX1_read_27 ?_
    refine lv_if_le (tgt := 35) hx hb dX1_read_30 (by decide) (fun h9 => absurd h9 ((by rw [zF_s]; decide))) (fun _ => ?_)
    refine lv_iconst (v := 0) hx hb dX1_read_33 (by decide) ?_
    exact m_reti hx hb hr hlocks hw ⟨rfl, rfl⟩ dX1_read_34
  · have g1 := bI_n.mp g1
    refine lv_iload_n hx hb dX1_read_9 rfl (lv_at hl 2 rfl) ?_
    refine lv_bipush (v := 31) hx hb dX1_read_10 (by decide) ?_
    refine m_cs (rest := [.ref (o 0)]) ⟨hx, hb, hml, hown, hts⟩ (cm_within l y 31) (cwm_within hts ⟨by decide, by decide⟩) hw rfl hl.1 rfl (Nat.le_of_ble_eq_true rfl) dX1_read_12 ⟨Nat.zero_le _, Nat.zero_le _⟩ (fun H locs hw => ?_)
    refine lv_if_eq (tgt := 22) hx hb dX1_read_15 (by decide) (fun _ => ?_) (fun h9 => absurd (bI_z.mpr (by rw [g1, Bool.true_and] at hbad; exact hbad)) h9)
    refine lv_iconst (v := 1) hx hb dX1_read_22 (by decide) ?_
    refine m_p4 (x := 1) hx hb hts hown hw dX1_read_23 (fun H locs hw => ?_)
    refine lv_aload_n hx hb dX1_read_26 rfl (lv_at hl 0 rfl) ?_
    refine m_f4 hx hb hts hown hw dX1_read_27 ?_
    refine lv_if_le (tgt := 35) hx hb dX1_read_30 (by decide) (fun h9 => absurd h9 ((by rw [zF_s]; decide))) (fun _ => ?_)
    refine lv_iconst (v := 0) hx hb dX1_read_33 (by decide) ?_
    exact m_reti hx hb hr hlocks hw ⟨rfl, rfl⟩ dX1_read_34
set_option maxRecDepth 100000 in
set_option maxHeartbeats 4000000 in
theorem cm_write_bad (l : Launch) (D : va_G) (o : Nat → Nat) (cA : ClassId) (S : SX) (x y : Int32) (z : Int32) (hbad : (inW x 3 && inW y 31) = false) : mMi l D o cA yX1_write cX1_write 9 (some .int) 1 [.ref (o 0), .int x, .int y, .int z] S (zF S 4 1) (0) := by
  intro sz
  refine m_met (by decide) rfl (Nat.le_of_ble_eq_true rfl) ?_
  intro P0 e s m below meth c ls hsz hx hb hml hr hlocks hown hts hl hw
  subst hsz
  have hl : lv_has ls 9 [(0, .ref (o 0)), (1, .int x), (2, .int y), (3, .int z)] := hl
  refine lv_aload_n hx hb dX1_write_0 rfl (lv_at hl 0 rfl) ?_
  refine lv_iload_n hx hb dX1_write_1 rfl (lv_at hl 1 rfl) ?_
  refine lv_iconst (v := 3) hx hb dX1_write_2 (by decide) ?_
  refine m_cs (rest := [.ref (o 0)]) ⟨hx, hb, hml, hown, hts⟩ (cm_within l x 3) (cwm_within hts ⟨by decide, by decide⟩) hw rfl hl.1 rfl (Nat.le_of_ble_eq_true rfl) dX1_write_3 ⟨Nat.zero_le _, Nat.zero_le _⟩ (fun H locs hw => ?_)
  refine lv_if_eq (tgt := 22) hx hb dX1_write_6 (by decide) (fun g1 => ?_) (fun g1 => ?_)
  · have g1 := bI_z.mp g1
    refine lv_iconst (v := 1) hx hb dX1_write_22 (by decide) ?_
    refine m_p4 (x := 1) hx hb hts hown hw dX1_write_23 (fun H locs hw => ?_)
    refine lv_aload_n hx hb dX1_write_26 rfl (lv_at hl 0 rfl) ?_
    refine m_f4 hx hb hts hown hw dX1_write_27 ?_
    refine lv_if_le (tgt := 35) hx hb dX1_write_30 (by decide) (fun h9 => absurd h9 ((by rw [zF_s]; decide))) (fun _ => ?_)
    refine lv_iconst (v := 0) hx hb dX1_write_33 (by decide) ?_
    exact m_reti hx hb hr hlocks hw ⟨rfl, rfl⟩ dX1_write_34
  · have g1 := bI_n.mp g1
    refine lv_iload_n hx hb dX1_write_9 rfl (lv_at hl 2 rfl) ?_
    refine lv_bipush (v := 31) hx hb dX1_write_10 (by decide) ?_
    refine m_cs (rest := [.ref (o 0)]) ⟨hx, hb, hml, hown, hts⟩ (cm_within l y 31) (cwm_within hts ⟨by decide, by decide⟩) hw rfl hl.1 rfl (Nat.le_of_ble_eq_true rfl) dX1_write_12 ⟨Nat.zero_le _, Nat.zero_le _⟩ (fun H locs hw => ?_)
    refine lv_if_eq (tgt := 22) hx hb dX1_write_15 (by decide) (fun _ => ?_) (fun h9 => absurd (bI_z.mpr (by rw [g1, Bool.true_and] at hbad; exact hbad)) h9)
    refine lv_iconst (v := 1) hx hb dX1_write_22 (by decide) ?_
    refine m_p4 (x := 1) hx hb hts hown hw dX1_write_23 (fun H locs hw => ?_)
    refine lv_aload_n hx hb dX1_write_26 rfl (lv_at hl 0 rfl) ?_
    refine m_f4 hx hb hts hown hw dX1_write_27 ?_
    refine lv_if_le (tgt := 35) hx hb dX1_write_30 (by decide) (fun h9 => absurd h9 ((by rw [zF_s]; decide))) (fun _ => ?_)
    refine lv_iconst (v := 0) hx hb dX1_write_33 (by decide) ?_
    exact m_reti hx hb hr hlocks hw ⟨rfl, rfl⟩ dX1_write_34
set_option maxRecDepth 100000 in
set_option maxHeartbeats 4000000 in
theorem cm_read (l : Launch) (D : va_G) (o : Nat → Nat) (cA : ClassId) (S : SX) (u a : Nat) (hu : u < 4) (ha : a < 32) : mMi l D o cA yX1_read cX1_read 4 (some .int) 3 [.ref (o 0), .int (nI u), .int (nI a)] S (mRd (zF S 4 0) u a) ((mRd (zF S 4 0) u a).1 1 (32 * u + a)) := by
  intro sz
  refine m_met (by decide) rfl (Nat.le_of_ble_eq_true rfl) ?_
  intro P0 e s m below meth c ls hsz hx hb hml hr hlocks hown hts hl hw
  subst hsz
  have hl : lv_has ls 4 [(0, .ref (o 0)), (1, .int (nI u)), (2, .int (nI a))] := hl
  have fin : ∀ (H : Heap) (locs : List Loc) (ls : Array Slot), lv_has ls 4 [(3, .int (nI (a / 2))), (0, .ref (o 0)), (1, .int (nI u)), (2, .int (nI a))] → mW D o cA (mA o s.heap.size) s s.heap (mRd (zF S 4 0) u a) H locs → W P0 l e (rmD 3) s m ([.ref (o 0), .int (nI u), .int (nI a)]).toArray below meth c H locs 0 0 (MQ below (mQi D o cA s.heap.size (mRd (zF S 4 0) u a) ((mRd (zF S 4 0) u a).1 1 (32 * u + a))) ([.ref (o 0), .int (nI u), .int (nI a)]).toArray s 0 0 (mA o s.heap.size)) (F0 m 55 ls []) := by
    intro H locs ls hl hw
    refine lv_aload_n hx hb dX1_read_55 rfl (lv_at hl 1 rfl) ?_
    refine m_g1 hx hb hts hown hw dX1_read_56 ?_
    refine lv_bipush (v := 32) hx hb dX1_read_59 (by decide) ?_
    refine lv_iload_n hx hb dX1_read_61 rfl (lv_at hl 2 rfl) ?_
    refine lv_imul hx hb dX1_read_62 ?_
    refine lw_top (y := nI (32 * u)) (pk_mul 32 u) ?_
    refine lv_iload_n hx hb dX1_read_63 rfl (lv_at hl 3 rfl) ?_
    refine lv_iadd hx hb dX1_read_64 ?_
    refine lw_top (y := nI ((32 * u) + a)) (nI_add (32 * u) a) ?_
    refine m_l1 (n := (32 * u) + a) hx hb hw (by omega) dX1_read_65 ?_
    exact m_reti hx hb hr hlocks hw ⟨rfl, rfl⟩ dX1_read_66
  refine lv_aload_n hx hb dX1_read_0 rfl (lv_at hl 0 rfl) ?_
  refine lv_iload_n hx hb dX1_read_1 rfl (lv_at hl 1 rfl) ?_
  refine lv_iconst (v := 3) hx hb dX1_read_2 (by decide) ?_
  refine m_cs (rest := [.ref (o 0)]) ⟨hx, hb, hml, hown, hts⟩ (cm_within l (nI u) 3) (cwm_within hts ⟨by decide, by decide⟩) hw rfl hl.1 rfl (Nat.le_of_ble_eq_true rfl) dX1_read_3 ⟨Nat.zero_le _, Nat.zero_le _⟩ (fun H locs hw => ?_)
  refine lv_if_eq (tgt := 22) hx hb dX1_read_6 (by decide) (fun h9 => absurd h9 (bI_n.mpr (inW_t (n := 3) hu (by decide)))) (fun _ => ?_)
  refine lv_iload_n hx hb dX1_read_9 rfl (lv_at hl 2 rfl) ?_
  refine lv_bipush (v := 31) hx hb dX1_read_10 (by decide) ?_
  refine m_cs (rest := [.ref (o 0)]) ⟨hx, hb, hml, hown, hts⟩ (cm_within l (nI a) 31) (cwm_within hts ⟨by decide, by decide⟩) hw rfl hl.1 rfl (Nat.le_of_ble_eq_true rfl) dX1_read_12 ⟨Nat.zero_le _, Nat.zero_le _⟩ (fun H locs hw => ?_)
  refine lv_if_eq (tgt := 22) hx hb dX1_read_15 (by decide) (fun h9 => absurd h9 (bI_n.mpr (inW_t (n := 31) ha (by decide)))) (fun _ => ?_)
  refine lv_iconst (v := 0) hx hb dX1_read_18 (by decide) ?_
  refine lv_goto (tgt := 23) hx hb dX1_read_19 (by decide) ?_
  refine m_p4 (x := 0) hx hb hts hown hw dX1_read_23 (fun H locs hw => ?_)
  refine lv_aload_n hx hb dX1_read_26 rfl (lv_at hl 0 rfl) ?_
  refine m_f4 hx hb hts hown hw dX1_read_27 ?_
  refine lv_if_le (tgt := 35) hx hb dX1_read_30 (by decide) (fun _ => ?_) (fun h9 => absurd ((by rw [zF_s]; decide)) h9)
  refine lv_iload_n hx hb dX1_read_35 rfl (lv_at hl 2 rfl) ?_
  refine lv_iconst (v := 2) hx hb dX1_read_36 (by decide) ?_
  refine lv_idiv hx hb dX1_read_37 (by decide) ?_
  refine lw_top (y := nI (a / 2)) (pk_div (a := a) (d := 2) (by omega) (by decide) (by decide)) ?_
  refine lv_istore_n (lv' := [(3, .int (nI (a / 2))), (0, .ref (o 0)), (1, .int (nI u)), (2, .int (nI a))]) hx hb dX1_read_38 rfl hl (by decide) rfl (fun ls hl => ?_)
  refine lv_aload_n hx hb dX1_read_39 rfl (lv_at hl 1 rfl) ?_
  refine lv_iload_n hx hb dX1_read_40 rfl (lv_at hl 2 rfl) ?_
  refine lv_iload_n hx hb dX1_read_41 rfl (lv_at hl 0 rfl) ?_
  refine m_ci (rest := []) ⟨hx, hb, hml, hown, hts⟩ (cm_hit l D o cA (zF S 4 0) u (a / 2) (by omega) (by omega)) (cwm_hit hts ⟨by decide, by decide⟩) hw rfl hl.1 rfl (Nat.le_of_ble_eq_true rfl) dX1_read_42 ⟨Nat.zero_le _, Nat.zero_le _⟩ (fun H locs hw => ?_)
  refine lv_if_ne (tgt := 55) hx hb dX1_read_45 (by decide) (fun g1 => ?_) (fun g1 => ?_)
  · have g1 := bI_n.mp g1
    exact fin _ _ _ (lv_sub hl [0, 1, 2, 3] rfl) (by rw [mRd, if_pos g1]; exact hw)
  · have g1 := bI_z.mp g1
    refine lv_aload_n hx hb dX1_read_48 rfl (lv_at hl 1 rfl) ?_
    refine lv_iload_n hx hb dX1_read_49 rfl (lv_at hl 2 rfl) ?_
    refine lv_iload_n hx hb dX1_read_50 rfl (lv_at hl 0 rfl) ?_
    refine lv_iconst (v := 0) hx hb dX1_read_51 (by decide) ?_
    refine m_cv (rest := []) ⟨hx, hb, hml, hown, hts⟩ (cm_load l D o cA (mHi (zF S 4 0) u (a / 2)) u (a / 2) 0 (by omega) (by omega) (by omega)) (cwm_load hts ⟨by decide, by decide⟩) hw rfl hl.1 rfl (Nat.le_of_ble_eq_true rfl) dX1_read_52 ⟨Nat.zero_le _, Nat.zero_le _⟩ (fun H locs hw => ?_)
    exact fin _ _ _ (lv_sub hl [0, 1, 2, 3] rfl) (by rw [mRd, if_neg (Bool.eq_false_iff.mp g1)]; exact hw)
set_option maxRecDepth 100000 in
set_option maxHeartbeats 4000000 in
theorem cm_write (l : Launch) (D : va_G) (o : Nat → Nat) (cA : ClassId) (S : SX) (u a : Nat) (w : Int32) (hu : u < 4) (ha : a < 32) : mMi l D o cA yX1_write cX1_write 9 (some .int) 3 [.ref (o 0), .int (nI u), .int (nI a), .int w] S (mWr (zF S 4 0) u a w) ((mWr (zF S 4 0) u a w).2 1 - S.2 1) := by
  intro sz
  refine m_met (by decide) rfl (Nat.le_of_ble_eq_true rfl) ?_
  intro P0 e s m below meth c ls hsz hx hb hml hr hlocks hown hts hl hw
  subst hsz
  have hl : lv_has ls 9 [(0, .ref (o 0)), (1, .int (nI u)), (2, .int (nI a)), (3, .int w)] := hl
  have fin : ∀ (due : Int32) (V : SX) (H : Heap) (locs : List Loc) (ls : Array Slot), lv_has ls 9 [(7, .int due), (4, .int (nI (a / 2))), (5, .int ((zF S 4 0).2 1)), (0, .ref (o 0)), (1, .int (nI u)), (2, .int (nI a)), (3, .int w)] → mW D o cA (mA o s.heap.size) s s.heap V H locs → mWrE V u a w due = mWr (zF S 4 0) u a w → W P0 l e (rmD 3) s m ([.ref (o 0), .int (nI u), .int (nI a), .int w]).toArray below meth c H locs 0 0 (MQ below (mQi D o cA s.heap.size (mWr (zF S 4 0) u a w) ((mWr (zF S 4 0) u a w).2 1 - S.2 1)) ([.ref (o 0), .int (nI u), .int (nI a), .int w]).toArray s 0 0 (mA o s.heap.size)) (F0 m 205 ls []) := by
    intro due V H locs ls hl hw hf
    refine lv_aload_n hx hb dX1_write_205 rfl (lv_at hl 3 rfl) ?_
    refine lv_iload_n hx hb dX1_write_206 rfl (lv_at hl 4 rfl) ?_
    refine lv_iload hx hb dX1_write_207 (lv_at hl 1 rfl) ?_
    refine lv_iload hx hb dX1_write_209 (lv_at hl 0 rfl) ?_
    refine m_cv (rest := []) ⟨hx, hb, hml, hown, hts⟩ (cm_setState l D o cA V u (a / 2) due (by omega) (by omega)) (cwm_setState hts ⟨by decide, by decide⟩) hw rfl hl.1 rfl (Nat.le_of_ble_eq_true rfl) dX1_write_211 ⟨Nat.zero_le _, Nat.zero_le _⟩ (fun H locs hw => ?_)
    refine lv_aload_n hx hb dX1_write_214 rfl (lv_at hl 3 rfl) ?_
    refine m_g1 hx hb hts hown hw dX1_write_215 ?_
    refine lv_bipush (v := 32) hx hb dX1_write_218 (by decide) ?_
    refine lv_iload_n hx hb dX1_write_220 rfl (lv_at hl 4 rfl) ?_
    refine lv_imul hx hb dX1_write_221 ?_
    refine lw_top (y := nI (32 * u)) (pk_mul 32 u) ?_
    refine lv_iload_n hx hb dX1_write_222 rfl (lv_at hl 5 rfl) ?_
    refine lv_iadd hx hb dX1_write_223 ?_
    refine lw_top (y := nI ((32 * u) + a)) (nI_add (32 * u) a) ?_
    refine lv_iload_n hx hb dX1_write_224 rfl (lv_at hl 6 rfl) ?_
    refine m_s1 (n := (32 * u) + a) (x := w) hx hb hw (by omega) dX1_write_225 (fun H locs hw => ?_)
    refine lv_aload_n hx hb dX1_write_226 rfl (lv_at hl 3 rfl) ?_
    refine m_f1 hx hb hts hown hw dX1_write_227 ?_
    refine lv_iload hx hb dX1_write_230 (lv_at hl 2 rfl) ?_
    refine lv_isub hx hb dX1_write_232 ?_
    exact m_reti hx hb hr hlocks hw ⟨by rw [← hf]; rfl, by rw [← hf]; rfl⟩ dX1_write_233
  have loop : ∀ (due : Int32) (n k : Nat), n + k = 4 → ∀ (V : SX) (H : Heap) (locs : List Loc) (ls : Array Slot), lv_has ls 9 [(8, .int (nI k)), (7, .int due), (4, .int (nI (a / 2))), (5, .int ((zF S 4 0).2 1)), (0, .ref (o 0)), (1, .int (nI u)), (2, .int (nI a)), (3, .int w)] → mW D o cA (mA o s.heap.size) s s.heap V H locs → mWrE (mUpF u a w n k V) u a w due = mWr (zF S 4 0) u a w → W P0 l e (rmD 3) s m ([.ref (o 0), .int (nI u), .int (nI a), .int w]).toArray below meth c H locs 0 0 (MQ below (mQi D o cA s.heap.size (mWr (zF S 4 0) u a w) ((mWr (zF S 4 0) u a w).2 1 - S.2 1)) ([.ref (o 0), .int (nI u), .int (nI a), .int w]).toArray s 0 0 (mA o s.heap.size)) (F0 m 151 ls []) := by
    intro due n
    induction n with
    | zero =>
      intro k hk V H locs ls hl hw hf
      obtain rfl : k = 4 := by omega
      refine lv_iload hx hb dX1_write_151 (lv_at hl 0 rfl) ?_
      refine lv_iconst (v := 4) hx hb dX1_write_153 (by decide) ?_
      refine lv_icmp_ge (tgt := 205) hx hb dX1_write_154 (by decide) (fun _ => ?_) (fun h9 => absurd (by decide) h9)
      exact fin _ _ _ _ _ (lv_sub hl [1, 2, 3, 4, 5, 6, 7] rfl) hw hf
    | succ n ih =>
      intro k hk V H locs ls hl hw hf
      refine lv_iload hx hb dX1_write_151 (lv_at hl 0 rfl) ?_
      refine lv_iconst (v := 4) hx hb dX1_write_153 (by decide) ?_
      refine lv_icmp_ge (tgt := 205) hx hb dX1_write_154 (by decide) (fun h9 => absurd h9 (nI_ge (a := k) (b := 4) (by omega) (by decide))) (fun _ => ?_)
      refine lv_iload hx hb dX1_write_157 (lv_at hl 0 rfl) ?_
      refine lv_iload_n hx hb dX1_write_159 rfl (lv_at hl 5 rfl) ?_
      refine lv_icmp_eq (tgt := 199) hx hb dX1_write_160 (by decide) (fun g1 => ?_) (fun g1 => ?_)
      · have g1 : k = u := (nI_eq (a := k) (b := u) (by omega) (by omega)).mp g1
        refine lv_iinc (k := 0) (v := nI (k + 1)) (lv' := [(8, .int (nI (k + 1))), (7, .int due), (4, .int (nI (a / 2))), (5, .int ((zF S 4 0).2 1)), (0, .ref (o 0)), (1, .int (nI u)), (2, .int (nI a)), (3, .int w)]) hx hb dX1_write_199 hl rfl (lw_inc k 1) (by decide) rfl (fun ls hl => ?_)
        refine lv_goto (tgt := 151) hx hb dX1_write_202 (by decide) ?_
        exact ih (k + 1) (by omega) _ _ _ _ (lv_sub hl [0, 1, 2, 3, 4, 5, 6, 7] rfl) hw (by rw [← hf]; simp [mUpF, mUp1, g1])
      · have g1 : ¬ k = u := fun h9 => g1 ((nI_eq (a := k) (b := u) (by omega) (by omega)).mpr h9)
        refine lv_aload_n hx hb dX1_write_163 rfl (lv_at hl 4 rfl) ?_
        refine lv_iload hx hb dX1_write_164 (lv_at hl 0 rfl) ?_
        refine lv_iload hx hb dX1_write_166 (lv_at hl 2 rfl) ?_
        refine m_ci (rest := []) ⟨hx, hb, hml, hown, hts⟩ (cm_stateOf l D o cA V k (a / 2) (by omega) (by omega)) (cwm_stateOf hts ⟨by decide, by decide⟩) hw rfl hl.1 rfl (Nat.le_of_ble_eq_true rfl) dX1_write_168 ⟨Nat.zero_le _, Nat.zero_le _⟩ (fun H locs hw => ?_)
        refine lv_if_ne (tgt := 177) hx hb dX1_write_171 (by decide) (fun g2 => ?_) (fun g2 => ?_)
        · refine lv_aload_n hx hb dX1_write_177 rfl (lv_at hl 4 rfl) ?_
          refine m_g1 hx hb hts hown hw dX1_write_178 ?_
          refine lv_bipush (v := 32) hx hb dX1_write_181 (by decide) ?_
          refine lv_iload hx hb dX1_write_183 (lv_at hl 0 rfl) ?_
          refine lv_imul hx hb dX1_write_185 ?_
          refine lw_top (y := nI (32 * k)) (pk_mul 32 k) ?_
          refine lv_iload_n hx hb dX1_write_186 rfl (lv_at hl 6 rfl) ?_
          refine lv_iadd hx hb dX1_write_187 ?_
          refine lw_top (y := nI ((32 * k) + a)) (nI_add (32 * k) a) ?_
          refine lv_iload_n hx hb dX1_write_188 rfl (lv_at hl 7 rfl) ?_
          refine m_s1 (n := (32 * k) + a) (x := w) hx hb hw (by omega) dX1_write_189 (fun H locs hw => ?_)
          refine lv_aload_n hx hb dX1_write_190 rfl (lv_at hl 4 rfl) ?_
          refine lv_iload hx hb dX1_write_191 (lv_at hl 0 rfl) ?_
          refine lv_iload hx hb dX1_write_193 (lv_at hl 2 rfl) ?_
          refine lv_iconst (v := 1) hx hb dX1_write_195 (by decide) ?_
          refine m_cv (rest := []) ⟨hx, hb, hml, hown, hts⟩ (cm_setState l D o cA (zA V 1 (upd (V.1 1) ((32 * k) + a) w)) k (a / 2) 1 (by omega) (by omega)) (cwm_setState hts ⟨by decide, by decide⟩) hw rfl hl.1 rfl (Nat.le_of_ble_eq_true rfl) dX1_write_196 ⟨Nat.zero_le _, Nat.zero_le _⟩ (fun H locs hw => ?_)
          refine lv_iinc (k := 0) (v := nI (k + 1)) (lv' := [(8, .int (nI (k + 1))), (7, .int due), (4, .int (nI (a / 2))), (5, .int ((zF S 4 0).2 1)), (0, .ref (o 0)), (1, .int (nI u)), (2, .int (nI a)), (3, .int w)]) hx hb dX1_write_199 hl rfl (lw_inc k 1) (by decide) rfl (fun ls hl => ?_)
          refine lv_goto (tgt := 151) hx hb dX1_write_202 (by decide) ?_
          exact ih (k + 1) (by omega) _ _ _ _ (lv_sub hl [0, 1, 2, 3, 4, 5, 6, 7] rfl) hw (by rw [← hf]; simp [mUpF, mUp1, g1, g2])
        · refine lv_goto (tgt := 199) hx hb dX1_write_174 (by decide) ?_
          refine lv_iinc (k := 0) (v := nI (k + 1)) (lv' := [(8, .int (nI (k + 1))), (7, .int due), (4, .int (nI (a / 2))), (5, .int ((zF S 4 0).2 1)), (0, .ref (o 0)), (1, .int (nI u)), (2, .int (nI a)), (3, .int w)]) hx hb dX1_write_199 hl rfl (lw_inc k 1) (by decide) rfl (fun ls hl => ?_)
          refine lv_goto (tgt := 151) hx hb dX1_write_202 (by decide) ?_
          exact ih (k + 1) (by omega) _ _ _ _ (lv_sub hl [0, 1, 2, 3, 4, 5, 6, 7] rfl) hw (by rw [← hf]; simp [mUpF, mUp1, g1, g2])
  have mid : ∀ (T : SX) (H : Heap) (locs : List Loc) (ls : Array Slot), lv_has ls 9 [(4, .int (nI (a / 2))), (5, .int ((zF S 4 0).2 1)), (0, .ref (o 0)), (1, .int (nI u)), (2, .int (nI a)), (3, .int w)] → mW D o cA (mA o s.heap.size) s s.heap T H locs → mWrT T u a w = mWr (zF S 4 0) u a w → W P0 l e (rmD 3) s m ([.ref (o 0), .int (nI u), .int (nI a), .int w]).toArray below meth c H locs 0 0 (MQ below (mQi D o cA s.heap.size (mWr (zF S 4 0) u a w) ((mWr (zF S 4 0) u a w).2 1 - S.2 1)) ([.ref (o 0), .int (nI u), .int (nI a), .int w]).toArray s 0 0 (mA o s.heap.size)) (F0 m 75 ls []) := by
    intro T H locs ls hl hw hf
    refine lv_aload_n hx hb dX1_write_75 rfl (lv_at hl 2 rfl) ?_
    refine lv_iload_n hx hb dX1_write_76 rfl (lv_at hl 3 rfl) ?_
    refine lv_iload hx hb dX1_write_77 (lv_at hl 0 rfl) ?_
    refine m_ci (rest := []) ⟨hx, hb, hml, hown, hts⟩ (cm_stateOf l D o cA T u (a / 2) (by omega) (by omega)) (cwm_stateOf hts ⟨by decide, by decide⟩) hw rfl hl.1 rfl (Nat.le_of_ble_eq_true rfl) dX1_write_79 ⟨Nat.zero_le _, Nat.zero_le _⟩ (fun H locs hw => ?_)
    refine lv_istore (lv' := [(6, .int (T.1 0 (16 * u + (a / 2)))), (4, .int (nI (a / 2))), (5, .int ((zF S 4 0).2 1)), (0, .ref (o 0)), (1, .int (nI u)), (2, .int (nI a)), (3, .int w)]) hx hb dX1_write_82 hl (by decide) rfl (fun ls hl => ?_)
    refine lv_iconst (v := 4) hx hb dX1_write_84 (by decide) ?_
    refine lv_istore (lv' := [(7, .int 4), (6, .int (T.1 0 (16 * u + (a / 2)))), (4, .int (nI (a / 2))), (5, .int ((zF S 4 0).2 1)), (0, .ref (o 0)), (1, .int (nI u)), (2, .int (nI a)), (3, .int w)]) hx hb dX1_write_85 hl (by decide) rfl (fun ls hl => ?_)
    refine lv_iload hx hb dX1_write_87 (lv_at hl 1 rfl) ?_
    refine lv_iconst (v := 1) hx hb dX1_write_89 (by decide) ?_
    refine lv_icmp_eq (tgt := 99) hx hb dX1_write_90 (by decide) (fun g3 => ?_) (fun g3 => ?_)
    · refine lv_aload_n hx hb dX1_write_99 rfl (lv_at hl 4 rfl) ?_
      refine lv_aload_n hx hb dX1_write_100 rfl (lv_at hl 4 rfl) ?_
      refine m_ci (rest := [.ref (o 0)]) ⟨hx, hb, hml, hown, hts⟩ (cm_invalidates l D o cA T) (cwm_invalidates hts ⟨by decide, by decide⟩) hw rfl hl.1 rfl (Nat.le_of_ble_eq_true rfl) dX1_write_101 ⟨Nat.zero_le _, Nat.zero_le _⟩ (fun H locs hw => ?_)
      refine lv_if_eq (tgt := 111) hx hb dX1_write_104 (by decide) (fun g4 => ?_) (fun g4 => ?_)
      · have g4 := bI_z.mp g4
        refine lv_iconst (v := 3) hx hb dX1_write_111 (by decide) ?_
        refine lv_iload_n hx hb dX1_write_112 rfl (lv_at hl 5 rfl) ?_
        refine lv_iload hx hb dX1_write_113 (lv_at hl 2 rfl) ?_
        refine m_cv (rest := []) ⟨hx, hb, hml, hown, hts⟩ (cm_transact l D o cA T 3 u (a / 2) (by omega) (by omega) (by omega)) (cwm_transact hts ⟨by decide, by decide⟩) hw rfl hl.1 rfl (Nat.le_of_ble_eq_true rfl) dX1_write_115 ⟨Nat.zero_le _, Nat.zero_le _⟩ (fun H locs hw => ?_)
        refine lv_aload_n hx hb dX1_write_118 rfl (lv_at hl 4 rfl) ?_
        refine m_ci (rest := []) ⟨hx, hb, hml, hown, hts⟩ (cm_invalidates l D o cA (mTr T 3 u (a / 2))) (cwm_invalidates hts ⟨by decide, by decide⟩) hw rfl hl.1 rfl (Nat.le_of_ble_eq_true rfl) dX1_write_119 ⟨Nat.zero_le _, Nat.zero_le _⟩ (fun H locs hw => ?_)
        refine lv_if_eq (tgt := 135) hx hb dX1_write_122 (by decide) (fun _ => ?_) (fun h9 => absurd (bI_z.mpr g4) h9)
        refine lv_aload_n hx hb dX1_write_135 rfl (lv_at hl 4 rfl) ?_
        refine lv_iload_n hx hb dX1_write_136 rfl (lv_at hl 5 rfl) ?_
        refine lv_iload hx hb dX1_write_137 (lv_at hl 2 rfl) ?_
        refine m_ci (rest := []) ⟨hx, hb, hml, hown, hts⟩ (cm_others l D o cA (mTr T 3 u (a / 2)) u (a / 2) (by omega) (by omega)) (cwm_others hts ⟨by decide, by decide⟩) hw rfl hl.1 rfl (Nat.le_of_ble_eq_true rfl) dX1_write_139 ⟨Nat.zero_le _, Nat.zero_le _⟩ (fun H locs hw => ?_)
        have hle := mOtF_le (S := mTr T 3 u (a / 2)) (p := u) (b := a / 2) 4 0 0
        refine lv_if_le (tgt := 148) hx hb dX1_write_142 (by decide) (fun g5 => ?_) (fun g5 => ?_)
        · have g5 : mOtF (mTr T 3 u (a / 2)) u (a / 2) 4 0 0 ≤ 0 := (nI_leI (a := mOtF (mTr T 3 u (a / 2)) u (a / 2) 4 0 0) (b := 0) (by omega) (by omega)).mp g5
          refine lv_iconst (v := 0) hx hb dX1_write_148 (by decide) ?_
          refine lv_istore (lv' := [(8, .int 0), (7, .int 4), (6, .int (T.1 0 (16 * u + (a / 2)))), (4, .int (nI (a / 2))), (5, .int ((zF S 4 0).2 1)), (0, .ref (o 0)), (1, .int (nI u)), (2, .int (nI a)), (3, .int w)]) hx hb dX1_write_149 hl (by decide) rfl (fun ls hl => ?_)
          exact loop 4 4 0 rfl _ _ _ _ (lv_sub hl [0, 1, 3, 4, 5, 6, 7, 8] rfl) hw (by rw [← hf, mWrT, if_pos (show xEl (T.1 0 (16 * u + a / 2)) = true by simp [xEl, g3]), if_pos (by simpa using g4), if_neg (by omega)])
        · have g5 : ¬ mOtF (mTr T 3 u (a / 2)) u (a / 2) 4 0 0 ≤ 0 := fun h9 => g5 ((nI_leI (a := mOtF (mTr T 3 u (a / 2)) u (a / 2) 4 0 0) (b := 0) (by omega) (by omega)).mpr h9)
          refine lv_iconst (v := 3) hx hb dX1_write_145 (by decide) ?_
          refine lv_istore (lv' := [(7, .int 3), (6, .int (T.1 0 (16 * u + (a / 2)))), (4, .int (nI (a / 2))), (5, .int ((zF S 4 0).2 1)), (0, .ref (o 0)), (1, .int (nI u)), (2, .int (nI a)), (3, .int w)]) hx hb dX1_write_146 hl (by decide) rfl (fun ls hl => ?_)
          refine lv_iconst (v := 0) hx hb dX1_write_148 (by decide) ?_
          refine lv_istore (lv' := [(8, .int 0), (7, .int 3), (6, .int (T.1 0 (16 * u + (a / 2)))), (4, .int (nI (a / 2))), (5, .int ((zF S 4 0).2 1)), (0, .ref (o 0)), (1, .int (nI u)), (2, .int (nI a)), (3, .int w)]) hx hb dX1_write_149 hl (by decide) rfl (fun ls hl => ?_)
          exact loop 3 4 0 rfl _ _ _ _ (lv_sub hl [0, 1, 3, 4, 5, 6, 7, 8] rfl) hw (by rw [← hf, mWrT, if_pos (show xEl (T.1 0 (16 * u + a / 2)) = true by simp [xEl, g3]), if_pos (by simpa using g4), if_pos (by omega)])
      · have g4 := bI_n.mp g4
        refine lv_iconst (v := 2) hx hb dX1_write_107 (by decide) ?_
        refine lv_goto (tgt := 112) hx hb dX1_write_108 (by decide) ?_
        refine lv_iload_n hx hb dX1_write_112 rfl (lv_at hl 5 rfl) ?_
        refine lv_iload hx hb dX1_write_113 (lv_at hl 2 rfl) ?_
        refine m_cv (rest := []) ⟨hx, hb, hml, hown, hts⟩ (cm_transact l D o cA T 2 u (a / 2) (by omega) (by omega) (by omega)) (cwm_transact hts ⟨by decide, by decide⟩) hw rfl hl.1 rfl (Nat.le_of_ble_eq_true rfl) dX1_write_115 ⟨Nat.zero_le _, Nat.zero_le _⟩ (fun H locs hw => ?_)
        refine lv_aload_n hx hb dX1_write_118 rfl (lv_at hl 4 rfl) ?_
        refine m_ci (rest := []) ⟨hx, hb, hml, hown, hts⟩ (cm_invalidates l D o cA (mTr T 2 u (a / 2))) (cwm_invalidates hts ⟨by decide, by decide⟩) hw rfl hl.1 rfl (Nat.le_of_ble_eq_true rfl) dX1_write_119 ⟨Nat.zero_le _, Nat.zero_le _⟩ (fun H locs hw => ?_)
        refine lv_if_eq (tgt := 135) hx hb dX1_write_122 (by decide) (fun h9 => absurd h9 (bI_n.mpr g4)) (fun _ => ?_)
        refine lv_aload_n hx hb dX1_write_125 rfl (lv_at hl 4 rfl) ?_
        refine lv_iload_n hx hb dX1_write_126 rfl (lv_at hl 5 rfl) ?_
        refine lv_iload hx hb dX1_write_127 (lv_at hl 2 rfl) ?_
        refine m_cv (rest := []) ⟨hx, hb, hml, hown, hts⟩ (cm_emptyOthers l D o cA (mTr T 2 u (a / 2)) u (a / 2) (by omega) (by omega)) (cwm_emptyOthers hts ⟨by decide, by decide⟩) hw rfl hl.1 rfl (Nat.le_of_ble_eq_true rfl) dX1_write_129 ⟨Nat.zero_le _, Nat.zero_le _⟩ (fun H locs hw => ?_)
        refine lv_goto (tgt := 205) hx hb dX1_write_132 (by decide) ?_
        exact fin 4 _ _ _ _ (lv_sub hl [0, 2, 3, 4, 5, 6, 7] rfl) hw (by rw [← hf, mWrT, if_pos (show xEl (T.1 0 (16 * u + a / 2)) = true by simp [xEl, g3]), if_neg (by simpa using g4)])
    · refine lv_iload hx hb dX1_write_93 (lv_at hl 1 rfl) ?_
      refine lv_iconst (v := 3) hx hb dX1_write_95 (by decide) ?_
      refine lv_icmp_ne (tgt := 205) hx hb dX1_write_96 (by decide) (fun g6 => ?_) (fun g6 => ?_)
      · exact fin 4 _ _ _ _ (lv_sub hl [0, 2, 3, 4, 5, 6, 7] rfl) hw (by rw [← hf, mWrT, if_neg (by simp [xEl, g3, g6])])
      · refine lv_aload_n hx hb dX1_write_99 rfl (lv_at hl 4 rfl) ?_
        refine lv_aload_n hx hb dX1_write_100 rfl (lv_at hl 4 rfl) ?_
        refine m_ci (rest := [.ref (o 0)]) ⟨hx, hb, hml, hown, hts⟩ (cm_invalidates l D o cA T) (cwm_invalidates hts ⟨by decide, by decide⟩) hw rfl hl.1 rfl (Nat.le_of_ble_eq_true rfl) dX1_write_101 ⟨Nat.zero_le _, Nat.zero_le _⟩ (fun H locs hw => ?_)
        refine lv_if_eq (tgt := 111) hx hb dX1_write_104 (by decide) (fun g7 => ?_) (fun g7 => ?_)
        · have g7 := bI_z.mp g7
          refine lv_iconst (v := 3) hx hb dX1_write_111 (by decide) ?_
          refine lv_iload_n hx hb dX1_write_112 rfl (lv_at hl 5 rfl) ?_
          refine lv_iload hx hb dX1_write_113 (lv_at hl 2 rfl) ?_
          refine m_cv (rest := []) ⟨hx, hb, hml, hown, hts⟩ (cm_transact l D o cA T 3 u (a / 2) (by omega) (by omega) (by omega)) (cwm_transact hts ⟨by decide, by decide⟩) hw rfl hl.1 rfl (Nat.le_of_ble_eq_true rfl) dX1_write_115 ⟨Nat.zero_le _, Nat.zero_le _⟩ (fun H locs hw => ?_)
          refine lv_aload_n hx hb dX1_write_118 rfl (lv_at hl 4 rfl) ?_
          refine m_ci (rest := []) ⟨hx, hb, hml, hown, hts⟩ (cm_invalidates l D o cA (mTr T 3 u (a / 2))) (cwm_invalidates hts ⟨by decide, by decide⟩) hw rfl hl.1 rfl (Nat.le_of_ble_eq_true rfl) dX1_write_119 ⟨Nat.zero_le _, Nat.zero_le _⟩ (fun H locs hw => ?_)
          refine lv_if_eq (tgt := 135) hx hb dX1_write_122 (by decide) (fun _ => ?_) (fun h9 => absurd (bI_z.mpr g7) h9)
          refine lv_aload_n hx hb dX1_write_135 rfl (lv_at hl 4 rfl) ?_
          refine lv_iload_n hx hb dX1_write_136 rfl (lv_at hl 5 rfl) ?_
          refine lv_iload hx hb dX1_write_137 (lv_at hl 2 rfl) ?_
          refine m_ci (rest := []) ⟨hx, hb, hml, hown, hts⟩ (cm_others l D o cA (mTr T 3 u (a / 2)) u (a / 2) (by omega) (by omega)) (cwm_others hts ⟨by decide, by decide⟩) hw rfl hl.1 rfl (Nat.le_of_ble_eq_true rfl) dX1_write_139 ⟨Nat.zero_le _, Nat.zero_le _⟩ (fun H locs hw => ?_)
          have hle := mOtF_le (S := mTr T 3 u (a / 2)) (p := u) (b := a / 2) 4 0 0
          refine lv_if_le (tgt := 148) hx hb dX1_write_142 (by decide) (fun g8 => ?_) (fun g8 => ?_)
          · have g8 : mOtF (mTr T 3 u (a / 2)) u (a / 2) 4 0 0 ≤ 0 := (nI_leI (a := mOtF (mTr T 3 u (a / 2)) u (a / 2) 4 0 0) (b := 0) (by omega) (by omega)).mp g8
            refine lv_iconst (v := 0) hx hb dX1_write_148 (by decide) ?_
            refine lv_istore (lv' := [(8, .int 0), (7, .int 4), (6, .int (T.1 0 (16 * u + (a / 2)))), (4, .int (nI (a / 2))), (5, .int ((zF S 4 0).2 1)), (0, .ref (o 0)), (1, .int (nI u)), (2, .int (nI a)), (3, .int w)]) hx hb dX1_write_149 hl (by decide) rfl (fun ls hl => ?_)
            exact loop 4 4 0 rfl _ _ _ _ (lv_sub hl [0, 1, 3, 4, 5, 6, 7, 8] rfl) hw (by rw [← hf, mWrT, if_pos (show xEl (T.1 0 (16 * u + a / 2)) = true by simp [xEl, g3, g6]), if_pos (by simpa using g7), if_neg (by omega)])
          · have g8 : ¬ mOtF (mTr T 3 u (a / 2)) u (a / 2) 4 0 0 ≤ 0 := fun h9 => g8 ((nI_leI (a := mOtF (mTr T 3 u (a / 2)) u (a / 2) 4 0 0) (b := 0) (by omega) (by omega)).mpr h9)
            refine lv_iconst (v := 3) hx hb dX1_write_145 (by decide) ?_
            refine lv_istore (lv' := [(7, .int 3), (6, .int (T.1 0 (16 * u + (a / 2)))), (4, .int (nI (a / 2))), (5, .int ((zF S 4 0).2 1)), (0, .ref (o 0)), (1, .int (nI u)), (2, .int (nI a)), (3, .int w)]) hx hb dX1_write_146 hl (by decide) rfl (fun ls hl => ?_)
            refine lv_iconst (v := 0) hx hb dX1_write_148 (by decide) ?_
            refine lv_istore (lv' := [(8, .int 0), (7, .int 3), (6, .int (T.1 0 (16 * u + (a / 2)))), (4, .int (nI (a / 2))), (5, .int ((zF S 4 0).2 1)), (0, .ref (o 0)), (1, .int (nI u)), (2, .int (nI a)), (3, .int w)]) hx hb dX1_write_149 hl (by decide) rfl (fun ls hl => ?_)
            exact loop 3 4 0 rfl _ _ _ _ (lv_sub hl [0, 1, 3, 4, 5, 6, 7, 8] rfl) hw (by rw [← hf, mWrT, if_pos (show xEl (T.1 0 (16 * u + a / 2)) = true by simp [xEl, g3, g6]), if_pos (by simpa using g7), if_pos (by omega)])
        · have g7 := bI_n.mp g7
          refine lv_iconst (v := 2) hx hb dX1_write_107 (by decide) ?_
          refine lv_goto (tgt := 112) hx hb dX1_write_108 (by decide) ?_
          refine lv_iload_n hx hb dX1_write_112 rfl (lv_at hl 5 rfl) ?_
          refine lv_iload hx hb dX1_write_113 (lv_at hl 2 rfl) ?_
          refine m_cv (rest := []) ⟨hx, hb, hml, hown, hts⟩ (cm_transact l D o cA T 2 u (a / 2) (by omega) (by omega) (by omega)) (cwm_transact hts ⟨by decide, by decide⟩) hw rfl hl.1 rfl (Nat.le_of_ble_eq_true rfl) dX1_write_115 ⟨Nat.zero_le _, Nat.zero_le _⟩ (fun H locs hw => ?_)
          refine lv_aload_n hx hb dX1_write_118 rfl (lv_at hl 4 rfl) ?_
          refine m_ci (rest := []) ⟨hx, hb, hml, hown, hts⟩ (cm_invalidates l D o cA (mTr T 2 u (a / 2))) (cwm_invalidates hts ⟨by decide, by decide⟩) hw rfl hl.1 rfl (Nat.le_of_ble_eq_true rfl) dX1_write_119 ⟨Nat.zero_le _, Nat.zero_le _⟩ (fun H locs hw => ?_)
          refine lv_if_eq (tgt := 135) hx hb dX1_write_122 (by decide) (fun h9 => absurd h9 (bI_n.mpr g7)) (fun _ => ?_)
          refine lv_aload_n hx hb dX1_write_125 rfl (lv_at hl 4 rfl) ?_
          refine lv_iload_n hx hb dX1_write_126 rfl (lv_at hl 5 rfl) ?_
          refine lv_iload hx hb dX1_write_127 (lv_at hl 2 rfl) ?_
          refine m_cv (rest := []) ⟨hx, hb, hml, hown, hts⟩ (cm_emptyOthers l D o cA (mTr T 2 u (a / 2)) u (a / 2) (by omega) (by omega)) (cwm_emptyOthers hts ⟨by decide, by decide⟩) hw rfl hl.1 rfl (Nat.le_of_ble_eq_true rfl) dX1_write_129 ⟨Nat.zero_le _, Nat.zero_le _⟩ (fun H locs hw => ?_)
          refine lv_goto (tgt := 205) hx hb dX1_write_132 (by decide) ?_
          exact fin 4 _ _ _ _ (lv_sub hl [0, 2, 3, 4, 5, 6, 7] rfl) hw (by rw [← hf, mWrT, if_pos (show xEl (T.1 0 (16 * u + a / 2)) = true by simp [xEl, g3, g6]), if_neg (by simpa using g7)])
  refine lv_aload_n hx hb dX1_write_0 rfl (lv_at hl 0 rfl) ?_
  refine lv_iload_n hx hb dX1_write_1 rfl (lv_at hl 1 rfl) ?_
  refine lv_iconst (v := 3) hx hb dX1_write_2 (by decide) ?_
  refine m_cs (rest := [.ref (o 0)]) ⟨hx, hb, hml, hown, hts⟩ (cm_within l (nI u) 3) (cwm_within hts ⟨by decide, by decide⟩) hw rfl hl.1 rfl (Nat.le_of_ble_eq_true rfl) dX1_write_3 ⟨Nat.zero_le _, Nat.zero_le _⟩ (fun H locs hw => ?_)
  refine lv_if_eq (tgt := 22) hx hb dX1_write_6 (by decide) (fun h9 => absurd h9 (bI_n.mpr (inW_t (n := 3) hu (by decide)))) (fun _ => ?_)
  refine lv_iload_n hx hb dX1_write_9 rfl (lv_at hl 2 rfl) ?_
  refine lv_bipush (v := 31) hx hb dX1_write_10 (by decide) ?_
  refine m_cs (rest := [.ref (o 0)]) ⟨hx, hb, hml, hown, hts⟩ (cm_within l (nI a) 31) (cwm_within hts ⟨by decide, by decide⟩) hw rfl hl.1 rfl (Nat.le_of_ble_eq_true rfl) dX1_write_12 ⟨Nat.zero_le _, Nat.zero_le _⟩ (fun H locs hw => ?_)
  refine lv_if_eq (tgt := 22) hx hb dX1_write_15 (by decide) (fun h9 => absurd h9 (bI_n.mpr (inW_t (n := 31) ha (by decide)))) (fun _ => ?_)
  refine lv_iconst (v := 0) hx hb dX1_write_18 (by decide) ?_
  refine lv_goto (tgt := 23) hx hb dX1_write_19 (by decide) ?_
  refine m_p4 (x := 0) hx hb hts hown hw dX1_write_23 (fun H locs hw => ?_)
  refine lv_aload_n hx hb dX1_write_26 rfl (lv_at hl 0 rfl) ?_
  refine m_f4 hx hb hts hown hw dX1_write_27 ?_
  refine lv_if_le (tgt := 35) hx hb dX1_write_30 (by decide) (fun _ => ?_) (fun h9 => absurd ((by rw [zF_s]; decide)) h9)
  refine lv_iload_n hx hb dX1_write_35 rfl (lv_at hl 2 rfl) ?_
  refine lv_iconst (v := 2) hx hb dX1_write_36 (by decide) ?_
  refine lv_idiv hx hb dX1_write_37 (by decide) ?_
  refine lw_top (y := nI (a / 2)) (pk_div (a := a) (d := 2) (by omega) (by decide) (by decide)) ?_
  refine lv_istore (lv' := [(4, .int (nI (a / 2))), (0, .ref (o 0)), (1, .int (nI u)), (2, .int (nI a)), (3, .int w)]) hx hb dX1_write_38 hl (by decide) rfl (fun ls hl => ?_)
  refine lv_aload_n hx hb dX1_write_40 rfl (lv_at hl 1 rfl) ?_
  refine m_f1 hx hb hts hown hw dX1_write_41 ?_
  refine lv_istore (lv' := [(5, .int ((zF S 4 0).2 1)), (4, .int (nI (a / 2))), (0, .ref (o 0)), (1, .int (nI u)), (2, .int (nI a)), (3, .int w)]) hx hb dX1_write_44 hl (by decide) rfl (fun ls hl => ?_)
  refine lv_aload_n hx hb dX1_write_46 rfl (lv_at hl 2 rfl) ?_
  refine lv_iload_n hx hb dX1_write_47 rfl (lv_at hl 3 rfl) ?_
  refine lv_iload hx hb dX1_write_48 (lv_at hl 1 rfl) ?_
  refine m_ci (rest := []) ⟨hx, hb, hml, hown, hts⟩ (cm_hit l D o cA (zF S 4 0) u (a / 2) (by omega) (by omega)) (cwm_hit hts ⟨by decide, by decide⟩) hw rfl hl.1 rfl (Nat.le_of_ble_eq_true rfl) dX1_write_50 ⟨Nat.zero_le _, Nat.zero_le _⟩ (fun H locs hw => ?_)
  refine lv_if_ne (tgt := 75) hx hb dX1_write_53 (by decide) (fun g9 => ?_) (fun g9 => ?_)
  · have g9 := bI_n.mp g9
    exact mid _ _ _ _ (lv_sub hl [1, 0, 2, 3, 4, 5] rfl) hw (by rw [mWr, mWrB, if_pos g9])
  · have g9 := bI_z.mp g9
    refine lv_aload_n hx hb dX1_write_56 rfl (lv_at hl 2 rfl) ?_
    refine lv_iload_n hx hb dX1_write_57 rfl (lv_at hl 3 rfl) ?_
    refine lv_iload hx hb dX1_write_58 (lv_at hl 1 rfl) ?_
    refine lv_aload_n hx hb dX1_write_60 rfl (lv_at hl 2 rfl) ?_
    refine m_ci (rest := [.int (nI (a / 2)), .int (nI u), .ref (o 0)]) ⟨hx, hb, hml, hown, hts⟩ (cm_invalidates l D o cA (mHi (zF S 4 0) u (a / 2))) (cwm_invalidates hts ⟨by decide, by decide⟩) hw rfl hl.1 rfl (Nat.le_of_ble_eq_true rfl) dX1_write_61 ⟨Nat.zero_le _, Nat.zero_le _⟩ (fun H locs hw => ?_)
    refine lv_if_eq (tgt := 71) hx hb dX1_write_64 (by decide) (fun g10 => ?_) (fun g10 => ?_)
    · have g10 := bI_z.mp g10
      refine lv_iconst (v := 0) hx hb dX1_write_71 (by decide) ?_
      refine m_cv (rest := []) ⟨hx, hb, hml, hown, hts⟩ (cm_load l D o cA (mHi (zF S 4 0) u (a / 2)) u (a / 2) 0 (by omega) (by omega) (by omega)) (cwm_load hts ⟨by decide, by decide⟩) hw rfl hl.1 rfl (Nat.le_of_ble_eq_true rfl) dX1_write_72 ⟨Nat.zero_le _, Nat.zero_le _⟩ (fun H locs hw => ?_)
      exact mid _ _ _ _ (lv_sub hl [1, 0, 2, 3, 4, 5] rfl) hw (by rw [mWr, mWrB, if_neg (by rw [g9]; decide), if_pos (by simpa using g10)])
    · have g10 := bI_n.mp g10
      refine lv_iconst (v := 1) hx hb dX1_write_67 (by decide) ?_
      refine lv_goto (tgt := 72) hx hb dX1_write_68 (by decide) ?_
      refine m_cv (rest := []) ⟨hx, hb, hml, hown, hts⟩ (cm_load l D o cA (mHi (zF S 4 0) u (a / 2)) u (a / 2) 1 (by omega) (by omega) (by omega)) (cwm_load hts ⟨by decide, by decide⟩) hw rfl hl.1 rfl (Nat.le_of_ble_eq_true rfl) dX1_write_72 ⟨Nat.zero_le _, Nat.zero_le _⟩ (fun H locs hw => ?_)
      exact mid _ _ _ _ (lv_sub hl [1, 0, 2, 3, 4, 5] rfl) hw (by rw [mWr, mWrB, if_neg (by rw [g9]; decide), if_neg (by simpa using g10)])
set_option maxRecDepth 100000 in
set_option maxHeartbeats 4000000 in
theorem cm_evict_bad (l : Launch) (D : va_G) (o : Nat → Nat) (cA : ClassId) (S : SX) (x y : Int32) (hbad : (inW x 3 && inW y 15) = false) : mMi l D o cA yX1_evict cX1_evict 3 (some .boolean) 1 [.ref (o 0), .int x, .int y] S (zF S 4 1) (bI false) := by
  intro sz
  refine m_met (by decide) rfl (Nat.le_of_ble_eq_true rfl) ?_
  intro P0 e s m below meth c ls hsz hx hb hml hr hlocks hown hts hl hw
  subst hsz
  have hl : lv_has ls 3 [(0, .ref (o 0)), (1, .int x), (2, .int y)] := hl
  refine lv_aload_n hx hb dX1_evict_0 rfl (lv_at hl 0 rfl) ?_
  refine lv_iload_n hx hb dX1_evict_1 rfl (lv_at hl 1 rfl) ?_
  refine lv_iconst (v := 3) hx hb dX1_evict_2 (by decide) ?_
  refine m_cs (rest := [.ref (o 0)]) ⟨hx, hb, hml, hown, hts⟩ (cm_within l x 3) (cwm_within hts ⟨by decide, by decide⟩) hw rfl hl.1 rfl (Nat.le_of_ble_eq_true rfl) dX1_evict_3 ⟨Nat.zero_le _, Nat.zero_le _⟩ (fun H locs hw => ?_)
  refine lv_if_eq (tgt := 18) hx hb dX1_evict_6 (by decide) (fun g1 => ?_) (fun g1 => ?_)
  · have g1 := bI_z.mp g1
    refine lv_iconst (v := 1) hx hb dX1_evict_18 (by decide) ?_
    refine lv_goto (tgt := 36) hx hb dX1_evict_19 (by decide) ?_
    refine m_p4 (x := 1) hx hb hts hown hw dX1_evict_36 (fun H locs hw => ?_)
    refine lv_aload_n hx hb dX1_evict_39 rfl (lv_at hl 0 rfl) ?_
    refine m_f4 hx hb hts hown hw dX1_evict_40 ?_
    refine lv_if_ne (tgt := 59) hx hb dX1_evict_43 (by decide) (fun _ => ?_) (fun h9 => absurd h9 ((by rw [zF_s]; decide)))
    refine lv_iconst (v := 0) hx hb dX1_evict_59 (by decide) ?_
    exact m_retz hx hb hr hlocks hw ⟨rfl, rfl⟩ dX1_evict_60
  · have g1 := bI_n.mp g1
    refine lv_iload_n hx hb dX1_evict_9 rfl (lv_at hl 2 rfl) ?_
    refine lv_bipush (v := 15) hx hb dX1_evict_10 (by decide) ?_
    refine m_cs (rest := [.ref (o 0)]) ⟨hx, hb, hml, hown, hts⟩ (cm_within l y 15) (cwm_within hts ⟨by decide, by decide⟩) hw rfl hl.1 rfl (Nat.le_of_ble_eq_true rfl) dX1_evict_12 ⟨Nat.zero_le _, Nat.zero_le _⟩ (fun H locs hw => ?_)
    refine lv_if_ne (tgt := 22) hx hb dX1_evict_15 (by decide) (fun h9 => absurd h9 (fun h8 => h8 (bI_z.mpr (by rw [g1, Bool.true_and] at hbad; exact hbad)))) (fun _ => ?_)
    refine lv_iconst (v := 1) hx hb dX1_evict_18 (by decide) ?_
    refine lv_goto (tgt := 36) hx hb dX1_evict_19 (by decide) ?_
    refine m_p4 (x := 1) hx hb hts hown hw dX1_evict_36 (fun H locs hw => ?_)
    refine lv_aload_n hx hb dX1_evict_39 rfl (lv_at hl 0 rfl) ?_
    refine m_f4 hx hb hts hown hw dX1_evict_40 ?_
    refine lv_if_ne (tgt := 59) hx hb dX1_evict_43 (by decide) (fun _ => ?_) (fun h9 => absurd h9 ((by rw [zF_s]; decide)))
    refine lv_iconst (v := 0) hx hb dX1_evict_59 (by decide) ?_
    exact m_retz hx hb hr hlocks hw ⟨rfl, rfl⟩ dX1_evict_60
set_option maxRecDepth 100000 in
set_option maxHeartbeats 4000000 in
theorem cm_evict_no (l : Launch) (D : va_G) (o : Nat → Nat) (cA : ClassId) (S : SX) (u b : Nat) (hu : u < 4) (hbb : b < 16) (hz : S.1 0 (16 * u + b) = 0) : mMi l D o cA yX1_evict cX1_evict 3 (some .boolean) 2 [.ref (o 0), .int (nI u), .int (nI b)] S (zF S 4 2) (bI false) := by
  intro sz
  refine m_met (by decide) rfl (Nat.le_of_ble_eq_true rfl) ?_
  intro P0 e s m below meth c ls hsz hx hb hml hr hlocks hown hts hl hw
  subst hsz
  have hl : lv_has ls 3 [(0, .ref (o 0)), (1, .int (nI u)), (2, .int (nI b))] := hl
  refine lv_aload_n hx hb dX1_evict_0 rfl (lv_at hl 0 rfl) ?_
  refine lv_iload_n hx hb dX1_evict_1 rfl (lv_at hl 1 rfl) ?_
  refine lv_iconst (v := 3) hx hb dX1_evict_2 (by decide) ?_
  refine m_cs (rest := [.ref (o 0)]) ⟨hx, hb, hml, hown, hts⟩ (cm_within l (nI u) 3) (cwm_within hts ⟨by decide, by decide⟩) hw rfl hl.1 rfl (Nat.le_of_ble_eq_true rfl) dX1_evict_3 ⟨Nat.zero_le _, Nat.zero_le _⟩ (fun H locs hw => ?_)
  refine lv_if_eq (tgt := 18) hx hb dX1_evict_6 (by decide) (fun h9 => absurd h9 (bI_n.mpr (inW_t (n := 3) hu (by decide)))) (fun _ => ?_)
  refine lv_iload_n hx hb dX1_evict_9 rfl (lv_at hl 2 rfl) ?_
  refine lv_bipush (v := 15) hx hb dX1_evict_10 (by decide) ?_
  refine m_cs (rest := [.ref (o 0)]) ⟨hx, hb, hml, hown, hts⟩ (cm_within l (nI b) 15) (cwm_within hts ⟨by decide, by decide⟩) hw rfl hl.1 rfl (Nat.le_of_ble_eq_true rfl) dX1_evict_12 ⟨Nat.zero_le _, Nat.zero_le _⟩ (fun H locs hw => ?_)
  refine lv_if_ne (tgt := 22) hx hb dX1_evict_15 (by decide) (fun _ => ?_) (fun h9 => absurd h9 (bI_n.mpr (inW_t (n := 15) hbb (by decide))))
  refine lv_aload_n hx hb dX1_evict_22 rfl (lv_at hl 0 rfl) ?_
  refine lv_iload_n hx hb dX1_evict_23 rfl (lv_at hl 1 rfl) ?_
  refine lv_iload_n hx hb dX1_evict_24 rfl (lv_at hl 2 rfl) ?_
  refine m_ci (rest := [.ref (o 0)]) ⟨hx, hb, hml, hown, hts⟩ (cm_stateOf l D o cA S u b (by omega) (by omega)) (cwm_stateOf hts ⟨by decide, by decide⟩) hw rfl hl.1 rfl (Nat.le_of_ble_eq_true rfl) dX1_evict_25 ⟨Nat.zero_le _, Nat.zero_le _⟩ (fun H locs hw => ?_)
  refine lv_if_ne (tgt := 35) hx hb dX1_evict_28 (by decide) (fun h9 => absurd h9 (fun h8 => h8 hz)) (fun _ => ?_)
  refine lv_iconst (v := 2) hx hb dX1_evict_31 (by decide) ?_
  refine lv_goto (tgt := 36) hx hb dX1_evict_32 (by decide) ?_
  refine m_p4 (x := 2) hx hb hts hown hw dX1_evict_36 (fun H locs hw => ?_)
  refine lv_aload_n hx hb dX1_evict_39 rfl (lv_at hl 0 rfl) ?_
  refine m_f4 hx hb hts hown hw dX1_evict_40 ?_
  refine lv_if_ne (tgt := 59) hx hb dX1_evict_43 (by decide) (fun _ => ?_) (fun h9 => absurd h9 ((by rw [zF_s]; decide)))
  refine lv_iconst (v := 0) hx hb dX1_evict_59 (by decide) ?_
  exact m_retz hx hb hr hlocks hw ⟨rfl, rfl⟩ dX1_evict_60
set_option maxRecDepth 100000 in
set_option maxHeartbeats 4000000 in
theorem cm_evict (l : Launch) (D : va_G) (o : Nat → Nat) (cA : ClassId) (S : SX) (u b : Nat) (hu : u < 4) (hbb : b < 16) (hz : ¬ S.1 0 (16 * u + b) = 0) : mMi l D o cA yX1_evict cX1_evict 3 (some .boolean) 2 [.ref (o 0), .int (nI u), .int (nI b)] S (mEm (zF S 4 0) u b) (bI (mDi (S.1 0 (16 * u + b)))) := by
  intro sz
  refine m_met (by decide) rfl (Nat.le_of_ble_eq_true rfl) ?_
  intro P0 e s m below meth c ls hsz hx hb hml hr hlocks hown hts hl hw
  subst hsz
  have hl : lv_has ls 3 [(0, .ref (o 0)), (1, .int (nI u)), (2, .int (nI b))] := hl
  refine lv_aload_n hx hb dX1_evict_0 rfl (lv_at hl 0 rfl) ?_
  refine lv_iload_n hx hb dX1_evict_1 rfl (lv_at hl 1 rfl) ?_
  refine lv_iconst (v := 3) hx hb dX1_evict_2 (by decide) ?_
  refine m_cs (rest := [.ref (o 0)]) ⟨hx, hb, hml, hown, hts⟩ (cm_within l (nI u) 3) (cwm_within hts ⟨by decide, by decide⟩) hw rfl hl.1 rfl (Nat.le_of_ble_eq_true rfl) dX1_evict_3 ⟨Nat.zero_le _, Nat.zero_le _⟩ (fun H locs hw => ?_)
  refine lv_if_eq (tgt := 18) hx hb dX1_evict_6 (by decide) (fun h9 => absurd h9 (bI_n.mpr (inW_t (n := 3) hu (by decide)))) (fun _ => ?_)
  refine lv_iload_n hx hb dX1_evict_9 rfl (lv_at hl 2 rfl) ?_
  refine lv_bipush (v := 15) hx hb dX1_evict_10 (by decide) ?_
  refine m_cs (rest := [.ref (o 0)]) ⟨hx, hb, hml, hown, hts⟩ (cm_within l (nI b) 15) (cwm_within hts ⟨by decide, by decide⟩) hw rfl hl.1 rfl (Nat.le_of_ble_eq_true rfl) dX1_evict_12 ⟨Nat.zero_le _, Nat.zero_le _⟩ (fun H locs hw => ?_)
  refine lv_if_ne (tgt := 22) hx hb dX1_evict_15 (by decide) (fun _ => ?_) (fun h9 => absurd h9 (bI_n.mpr (inW_t (n := 15) hbb (by decide))))
  refine lv_aload_n hx hb dX1_evict_22 rfl (lv_at hl 0 rfl) ?_
  refine lv_iload_n hx hb dX1_evict_23 rfl (lv_at hl 1 rfl) ?_
  refine lv_iload_n hx hb dX1_evict_24 rfl (lv_at hl 2 rfl) ?_
  refine m_ci (rest := [.ref (o 0)]) ⟨hx, hb, hml, hown, hts⟩ (cm_stateOf l D o cA S u b (by omega) (by omega)) (cwm_stateOf hts ⟨by decide, by decide⟩) hw rfl hl.1 rfl (Nat.le_of_ble_eq_true rfl) dX1_evict_25 ⟨Nat.zero_le _, Nat.zero_le _⟩ (fun H locs hw => ?_)
  refine lv_if_ne (tgt := 35) hx hb dX1_evict_28 (by decide) (fun _ => ?_) (fun h9 => absurd h9 (hz))
  refine lv_iconst (v := 0) hx hb dX1_evict_35 (by decide) ?_
  refine m_p4 (x := 0) hx hb hts hown hw dX1_evict_36 (fun H locs hw => ?_)
  refine lv_aload_n hx hb dX1_evict_39 rfl (lv_at hl 0 rfl) ?_
  refine m_f4 hx hb hts hown hw dX1_evict_40 ?_
  refine lv_if_ne (tgt := 59) hx hb dX1_evict_43 (by decide) (fun h9 => absurd h9 ((by rw [zF_s]; decide))) (fun _ => ?_)
  refine lv_aload_n hx hb dX1_evict_46 rfl (lv_at hl 0 rfl) ?_
  refine lv_iload_n hx hb dX1_evict_47 rfl (lv_at hl 1 rfl) ?_
  refine lv_iload_n hx hb dX1_evict_48 rfl (lv_at hl 2 rfl) ?_
  refine m_ci (rest := []) ⟨hx, hb, hml, hown, hts⟩ (cm_empty l D o cA (zF S 4 0) u b (by omega) (by omega)) (cwm_empty hts ⟨by decide, by decide⟩) hw rfl hl.1 rfl (Nat.le_of_ble_eq_true rfl) dX1_evict_49 ⟨Nat.zero_le _, Nat.zero_le _⟩ (fun H locs hw => ?_)
  refine lv_if_eq (tgt := 59) hx hb dX1_evict_52 (by decide) (fun g1 => ?_) (fun g1 => ?_)
  · have g1 := bI_z.mp g1
    refine lv_iconst (v := 0) hx hb dX1_evict_59 (by decide) ?_
    exact m_retz hx hb hr hlocks hw ⟨by rw [show S.1 0 = (zF S 4 0).1 0 from rfl, g1]; rfl, rfl⟩ dX1_evict_60
  · have g1 := bI_n.mp g1
    refine lv_iconst (v := 1) hx hb dX1_evict_55 (by decide) ?_
    refine lv_goto (tgt := 60) hx hb dX1_evict_56 (by decide) ?_
    exact m_retz hx hb hr hlocks hw ⟨by rw [show S.1 0 = (zF S 4 0).1 0 from rfl, g1]; rfl, rfl⟩ dX1_evict_60
set_option maxRecDepth 100000 in
set_option maxHeartbeats 4000000 in
theorem cm_state (l : Launch) (D : va_G) (o : Nat → Nat) (cA : ClassId) (S : SX) (x y : Int32)  : mMi l D o cA yX1_state cX1_state 3 (some .int) 1 [.ref (o 0), .int x, .int y] S (S) (mStV S x y) := by
  intro sz
  refine m_met (by decide) rfl (Nat.le_of_ble_eq_true rfl) ?_
  intro P0 e s m below meth c ls hsz hx hb hml hr hlocks hown hts hl hw
  subst hsz
  have hl : lv_has ls 3 [(0, .ref (o 0)), (1, .int x), (2, .int y)] := hl
  refine lv_iload_n hx hb dX1_state_0 rfl (lv_at hl 1 rfl) ?_
  refine lv_iconst (v := 3) hx hb dX1_state_1 (by decide) ?_
  refine m_cs (rest := []) ⟨hx, hb, hml, hown, hts⟩ (cm_within l x 3) (cwm_within hts ⟨by decide, by decide⟩) hw rfl hl.1 rfl (Nat.le_of_ble_eq_true rfl) dX1_state_2 ⟨Nat.zero_le _, Nat.zero_le _⟩ (fun H locs hw => ?_)
  refine lv_if_eq (tgt := 26) hx hb dX1_state_5 (by decide) (fun g1 => ?_) (fun g1 => ?_)
  · have g1 := bI_z.mp g1
    refine lv_iconst (v := -1) hx hb dX1_state_26 (by decide) ?_
    exact m_reti hx hb hr hlocks hw ⟨by simp [mStV, g1], rfl⟩ dX1_state_27
  · have g1 := bI_n.mp g1
    refine lv_iload_n hx hb dX1_state_8 rfl (lv_at hl 2 rfl) ?_
    refine lv_bipush (v := 15) hx hb dX1_state_9 (by decide) ?_
    refine m_cs (rest := []) ⟨hx, hb, hml, hown, hts⟩ (cm_within l y 15) (cwm_within hts ⟨by decide, by decide⟩) hw rfl hl.1 rfl (Nat.le_of_ble_eq_true rfl) dX1_state_11 ⟨Nat.zero_le _, Nat.zero_le _⟩ (fun H locs hw => ?_)
    refine lv_if_eq (tgt := 26) hx hb dX1_state_14 (by decide) (fun g2 => ?_) (fun g2 => ?_)
    · have g2 := bI_z.mp g2
      refine lv_iconst (v := -1) hx hb dX1_state_26 (by decide) ?_
      exact m_reti hx hb hr hlocks hw ⟨by simp [mStV, g1, g2], rfl⟩ dX1_state_27
    · have g2 := bI_n.mp g2
      obtain ⟨u, hu, rfl⟩ := inW_of (n := 3) (by decide) g1
      obtain ⟨v, hv, rfl⟩ := inW_of (n := 15) (by decide) g2
      refine lv_aload_n hx hb dX1_state_17 rfl (lv_at hl 0 rfl) ?_
      refine lv_iload_n hx hb dX1_state_18 rfl (lv_at hl 1 rfl) ?_
      refine lv_iload_n hx hb dX1_state_19 rfl (lv_at hl 2 rfl) ?_
      refine m_ci (rest := []) ⟨hx, hb, hml, hown, hts⟩ (cm_stateOf l D o cA S u v (by omega) (by omega)) (cwm_stateOf hts ⟨by decide, by decide⟩) hw rfl hl.1 rfl (Nat.le_of_ble_eq_true rfl) dX1_state_20 ⟨Nat.zero_le _, Nat.zero_le _⟩ (fun H locs hw => ?_)
      refine lv_goto (tgt := 27) hx hb dX1_state_23 (by decide) ?_
      exact m_reti hx hb hr hlocks hw ⟨by simp [mStV, nI_clamp (show u < 2 ^ 31 by omega), nI_clamp (show v < 2 ^ 31 by omega), g1, g2], rfl⟩ dX1_state_27
set_option maxRecDepth 100000 in
set_option maxHeartbeats 4000000 in
theorem cm_cached (l : Launch) (D : va_G) (o : Nat → Nat) (cA : ClassId) (S : SX) (x y : Int32)  : mMi l D o cA yX1_cached cX1_cached 3 (some .int) 1 [.ref (o 0), .int x, .int y] S (S) (mCaV S x y) := by
  intro sz
  refine m_met (by decide) rfl (Nat.le_of_ble_eq_true rfl) ?_
  intro P0 e s m below meth c ls hsz hx hb hml hr hlocks hown hts hl hw
  subst hsz
  have hl : lv_has ls 3 [(0, .ref (o 0)), (1, .int x), (2, .int y)] := hl
  refine lv_iload_n hx hb dX1_cached_0 rfl (lv_at hl 1 rfl) ?_
  refine lv_iconst (v := 3) hx hb dX1_cached_1 (by decide) ?_
  refine m_cs (rest := []) ⟨hx, hb, hml, hown, hts⟩ (cm_within l x 3) (cwm_within hts ⟨by decide, by decide⟩) hw rfl hl.1 rfl (Nat.le_of_ble_eq_true rfl) dX1_cached_2 ⟨Nat.zero_le _, Nat.zero_le _⟩ (fun H locs hw => ?_)
  refine lv_if_eq (tgt := 28) hx hb dX1_cached_5 (by decide) (fun g1 => ?_) (fun g1 => ?_)
  · have g1 := bI_z.mp g1
    refine lv_iconst (v := 0) hx hb dX1_cached_28 (by decide) ?_
    exact m_reti hx hb hr hlocks hw ⟨by simp [mCaV, g1], rfl⟩ dX1_cached_29
  · have g1 := bI_n.mp g1
    refine lv_iload_n hx hb dX1_cached_8 rfl (lv_at hl 2 rfl) ?_
    refine lv_bipush (v := 31) hx hb dX1_cached_9 (by decide) ?_
    refine m_cs (rest := []) ⟨hx, hb, hml, hown, hts⟩ (cm_within l y 31) (cwm_within hts ⟨by decide, by decide⟩) hw rfl hl.1 rfl (Nat.le_of_ble_eq_true rfl) dX1_cached_11 ⟨Nat.zero_le _, Nat.zero_le _⟩ (fun H locs hw => ?_)
    refine lv_if_eq (tgt := 28) hx hb dX1_cached_14 (by decide) (fun g2 => ?_) (fun g2 => ?_)
    · have g2 := bI_z.mp g2
      refine lv_iconst (v := 0) hx hb dX1_cached_28 (by decide) ?_
      exact m_reti hx hb hr hlocks hw ⟨by simp [mCaV, g1, g2], rfl⟩ dX1_cached_29
    · have g2 := bI_n.mp g2
      obtain ⟨u, hu, rfl⟩ := inW_of (n := 3) (by decide) g1
      obtain ⟨v, hv, rfl⟩ := inW_of (n := 31) (by decide) g2
      refine lv_aload_n hx hb dX1_cached_17 rfl (lv_at hl 0 rfl) ?_
      refine lv_iload_n hx hb dX1_cached_18 rfl (lv_at hl 1 rfl) ?_
      refine lv_iload_n hx hb dX1_cached_19 rfl (lv_at hl 2 rfl) ?_
      refine lv_iconst (v := 2) hx hb dX1_cached_20 (by decide) ?_
      refine lv_idiv hx hb dX1_cached_21 (by decide) ?_
      refine lw_top (y := nI (v / 2)) (pk_div (a := v) (d := 2) (by omega) (by decide) (by decide)) ?_
      refine m_ci (rest := []) ⟨hx, hb, hml, hown, hts⟩ (cm_stateOf l D o cA S u (v / 2) (by omega) (by omega)) (cwm_stateOf hts ⟨by decide, by decide⟩) hw rfl hl.1 rfl (Nat.le_of_ble_eq_true rfl) dX1_cached_22 ⟨Nat.zero_le _, Nat.zero_le _⟩ (fun H locs hw => ?_)
      refine lv_if_ne (tgt := 30) hx hb dX1_cached_25 (by decide) (fun g3 => ?_) (fun g3 => ?_)
      · refine lv_aload_n hx hb dX1_cached_30 rfl (lv_at hl 0 rfl) ?_
        refine m_g1 hx hb hts hown hw dX1_cached_31 ?_
        refine lv_bipush (v := 32) hx hb dX1_cached_34 (by decide) ?_
        refine lv_iload_n hx hb dX1_cached_36 rfl (lv_at hl 1 rfl) ?_
        refine lv_imul hx hb dX1_cached_37 ?_
        refine lw_top (y := nI (32 * u)) (pk_mul 32 u) ?_
        refine lv_iload_n hx hb dX1_cached_38 rfl (lv_at hl 2 rfl) ?_
        refine lv_iadd hx hb dX1_cached_39 ?_
        refine lw_top (y := nI ((32 * u) + v)) (nI_add (32 * u) v) ?_
        refine m_l1 (n := (32 * u) + v) hx hb hw (by omega) dX1_cached_40 ?_
        exact m_reti hx hb hr hlocks hw ⟨by simp [mCaV, nI_clamp (show u < 2 ^ 31 by omega), nI_clamp (show v < 2 ^ 31 by omega), g1, g2, g3], rfl⟩ dX1_cached_41
      · refine lv_iconst (v := 0) hx hb dX1_cached_28 (by decide) ?_
        exact m_reti hx hb hr hlocks hw ⟨by simp [mCaV, nI_clamp (show u < 2 ^ 31 by omega), nI_clamp (show v < 2 ^ 31 by omega), g1, g2, g3], rfl⟩ dX1_cached_29
set_option maxRecDepth 100000 in
set_option maxHeartbeats 4000000 in
theorem cm_memory (l : Launch) (D : va_G) (o : Nat → Nat) (cA : ClassId) (S : SX) (x : Int32)  : mMi l D o cA yX1_memory cX1_memory 2 (some .int) 1 [.ref (o 0), .int x] S (S) (mMeV S x) := by
  intro sz
  refine m_met (by decide) rfl (Nat.le_of_ble_eq_true rfl) ?_
  intro P0 e s m below meth c ls hsz hx hb hml hr hlocks hown hts hl hw
  subst hsz
  have hl : lv_has ls 2 [(0, .ref (o 0)), (1, .int x)] := hl
  refine lv_iload_n hx hb dX1_memory_0 rfl (lv_at hl 1 rfl) ?_
  refine lv_bipush (v := 31) hx hb dX1_memory_1 (by decide) ?_
  refine m_cs (rest := []) ⟨hx, hb, hml, hown, hts⟩ (cm_within l x 31) (cwm_within hts ⟨by decide, by decide⟩) hw rfl hl.1 rfl (Nat.le_of_ble_eq_true rfl) dX1_memory_3 ⟨Nat.zero_le _, Nat.zero_le _⟩ (fun H locs hw => ?_)
  refine lv_if_eq (tgt := 18) hx hb dX1_memory_6 (by decide) (fun g1 => ?_) (fun g1 => ?_)
  · have g1 := bI_z.mp g1
    refine lv_iconst (v := 0) hx hb dX1_memory_18 (by decide) ?_
    exact m_reti hx hb hr hlocks hw ⟨by simp [mMeV, g1], rfl⟩ dX1_memory_19
  · have g1 := bI_n.mp g1
    obtain ⟨u, hu, rfl⟩ := inW_of (n := 31) (by decide) g1
    refine lv_aload_n hx hb dX1_memory_9 rfl (lv_at hl 0 rfl) ?_
    refine m_g2 hx hb hts hown hw dX1_memory_10 ?_
    refine lv_iload_n hx hb dX1_memory_13 rfl (lv_at hl 1 rfl) ?_
    refine m_l2 (n := u) hx hb hw (by omega) dX1_memory_14 ?_
    refine lv_goto (tgt := 19) hx hb dX1_memory_15 (by decide) ?_
    exact m_reti hx hb hr hlocks hw ⟨by simp [mMeV, nI_clamp (show u < 2 ^ 31 by omega), g1], rfl⟩ dX1_memory_19
set_option maxRecDepth 100000 in
set_option maxHeartbeats 4000000 in
theorem cm_count (l : Launch) (D : va_G) (o : Nat → Nat) (cA : ClassId) (S : SX) (x : Int32)  : mMi l D o cA yX1_count cX1_count 2 (some .int) 1 [.ref (o 0), .int x] S (S) (mCoV S x) := by
  intro sz
  refine m_met (by decide) rfl (Nat.le_of_ble_eq_true rfl) ?_
  intro P0 e s m below meth c ls hsz hx hb hml hr hlocks hown hts hl hw
  subst hsz
  have hl : lv_has ls 2 [(0, .ref (o 0)), (1, .int x)] := hl
  refine lv_iload_n hx hb dX1_count_0 rfl (lv_at hl 1 rfl) ?_
  refine lv_iconst (v := 4) hx hb dX1_count_1 (by decide) ?_
  refine m_cs (rest := []) ⟨hx, hb, hml, hown, hts⟩ (cm_within l x 4) (cwm_within hts ⟨by decide, by decide⟩) hw rfl hl.1 rfl (Nat.le_of_ble_eq_true rfl) dX1_count_2 ⟨Nat.zero_le _, Nat.zero_le _⟩ (fun H locs hw => ?_)
  refine lv_if_eq (tgt := 17) hx hb dX1_count_5 (by decide) (fun g1 => ?_) (fun g1 => ?_)
  · have g1 := bI_z.mp g1
    refine lv_iconst (v := -1) hx hb dX1_count_17 (by decide) ?_
    exact m_reti hx hb hr hlocks hw ⟨by simp [mCoV, g1], rfl⟩ dX1_count_18
  · have g1 := bI_n.mp g1
    obtain ⟨u, hu, rfl⟩ := inW_of (n := 4) (by decide) g1
    refine lv_aload_n hx hb dX1_count_8 rfl (lv_at hl 0 rfl) ?_
    refine m_g3 hx hb hts hown hw dX1_count_9 ?_
    refine lv_iload_n hx hb dX1_count_12 rfl (lv_at hl 1 rfl) ?_
    refine m_l3 (n := u) hx hb hw (by omega) dX1_count_13 ?_
    refine lv_goto (tgt := 18) hx hb dX1_count_14 (by decide) ?_
    exact m_reti hx hb hr hlocks hw ⟨by simp [mCoV, nI_clamp (show u < 2 ^ 31 by omega), g1], rfl⟩ dX1_count_18
set_option maxRecDepth 100000 in
set_option maxHeartbeats 4000000 in
theorem cm_latest (l : Launch) (D : va_G) (o : Nat → Nat) (cA : ClassId) (S : SX) (x : Int32)  : mMi l D o cA yX1_latest cX1_latest 2 (some .int) 1 [.ref (o 0), .int x] S (S) (mLaV S x) := by
  intro sz
  refine m_met (by decide) rfl (Nat.le_of_ble_eq_true rfl) ?_
  intro P0 e s m below meth c ls hsz hx hb hml hr hlocks hown hts hl hw
  subst hsz
  have hl : lv_has ls 2 [(0, .ref (o 0)), (1, .int x)] := hl
  refine lv_iload_n hx hb dX1_latest_0 rfl (lv_at hl 1 rfl) ?_
  refine lv_bipush (v := 7) hx hb dX1_latest_1 (by decide) ?_
  refine m_cs (rest := []) ⟨hx, hb, hml, hown, hts⟩ (cm_within l x 7) (cwm_within hts ⟨by decide, by decide⟩) hw rfl hl.1 rfl (Nat.le_of_ble_eq_true rfl) dX1_latest_3 ⟨Nat.zero_le _, Nat.zero_le _⟩ (fun H locs hw => ?_)
  refine lv_if_eq (tgt := 26) hx hb dX1_latest_6 (by decide) (fun g1 => ?_) (fun g1 => ?_)
  · have g1 := bI_z.mp g1
    refine lv_iconst (v := -1) hx hb dX1_latest_26 (by decide) ?_
    exact m_reti hx hb hr hlocks hw ⟨by simp [mLaV, g1], rfl⟩ dX1_latest_27
  · have g1 := bI_n.mp g1
    obtain ⟨u, hu, rfl⟩ := inW_of (n := 7) (by decide) g1
    refine lv_iload_n hx hb dX1_latest_9 rfl (lv_at hl 1 rfl) ?_
    refine lv_aload_n hx hb dX1_latest_10 rfl (lv_at hl 0 rfl) ?_
    refine m_f1 hx hb hts hown hw dX1_latest_11 ?_
    refine lv_icmp_ge (tgt := 26) hx hb dX1_latest_14 (by decide) (fun g2 => ?_) (fun g2 => ?_)
    · refine lv_iconst (v := -1) hx hb dX1_latest_26 (by decide) ?_
      exact m_reti hx hb hr hlocks hw ⟨by simp [mLaV, nI_clamp (show u < 2 ^ 31 by omega), g1, g2], rfl⟩ dX1_latest_27
    · refine lv_aload_n hx hb dX1_latest_17 rfl (lv_at hl 0 rfl) ?_
      refine m_g4 hx hb hts hown hw dX1_latest_18 ?_
      refine lv_iload_n hx hb dX1_latest_21 rfl (lv_at hl 1 rfl) ?_
      refine m_l4 (n := u) hx hb hw (by omega) dX1_latest_22 ?_
      refine lv_goto (tgt := 27) hx hb dX1_latest_23 (by decide) ?_
      exact m_reti hx hb hr hlocks hw ⟨by simp [mLaV, nI_clamp (show u < 2 ^ 31 by omega), g1, g2], rfl⟩ dX1_latest_27
set_option maxRecDepth 100000 in
set_option maxHeartbeats 4000000 in
theorem cm_flush (l : Launch) (D : va_G) (o : Nat → Nat) (cA : ClassId) (S : SX)   : mMi l D o cA yX1_flush cX1_flush 6 (some .int) 2 [.ref (o 0)] S ((mFlP 4 0 (zF S 4 0, 0)).1) (nI (mFlP 4 0 (zF S 4 0, 0)).2) := by
  intro sz
  refine m_met (by decide) rfl (Nat.le_of_ble_eq_true rfl) ?_
  intro P0 e s m below meth c ls hsz hx hb hml hr hlocks hown hts hl hw
  subst hsz
  have hl : lv_has ls 6 [(0, .ref (o 0))] := hl
  have inB : ∀ (p ln : Nat), p < 4 → ln < 2 → ∀ (n b : Nat), b + 2 * n = 16 + ln → ∀ (V : SX) (t : Nat) (H : Heap) (locs : List Loc) (ls : Array Slot), lv_has ls 6 [(4, .int (nI b)), (3, .int (nI ln)), (2, .int (nI p)), (1, .int (nI t)), (0, .ref (o 0))] → mW D o cA (mA o s.heap.size) s s.heap V H locs → (∀ (V' : SX) (t' : Nat) (H : Heap) (locs : List Loc) (ls : Array Slot), lv_has ls 6 [(3, .int (nI ln)), (2, .int (nI p)), (1, .int (nI t')), (0, .ref (o 0))] → mW D o cA (mA o s.heap.size) s s.heap V' H locs → (V', t') = mFlB p n b (V, t) → W P0 l e (rmD 2) s m ([.ref (o 0)]).toArray below meth c H locs 0 0 (MQ below (mQi D o cA s.heap.size ((mFlP 4 0 (zF S 4 0, 0)).1) (nI (mFlP 4 0 (zF S 4 0, 0)).2)) ([.ref (o 0)]).toArray s 0 0 (mA o s.heap.size)) (F0 m 64 ls [])) → W P0 l e (rmD 2) s m ([.ref (o 0)]).toArray below meth c H locs 0 0 (MQ below (mQi D o cA s.heap.size ((mFlP 4 0 (zF S 4 0, 0)).1) (nI (mFlP 4 0 (zF S 4 0, 0)).2)) ([.ref (o 0)]).toArray s 0 0 (mA o s.heap.size)) (F0 m 24 ls []) := by
    intro p ln hp hln n
    induction n with
    | zero =>
      intro b hb9 V t H locs ls hl hw kk
      refine lv_iload hx hb dX1_flush_24 (lv_at hl 0 rfl) ?_
      refine lv_bipush (v := 16) hx hb dX1_flush_26 (by decide) ?_
      refine lv_icmp_ge (tgt := 64) hx hb dX1_flush_28 (by decide) (fun _ => ?_) (fun h9 => absurd (nI_le (a := 16) (b := b) (by omega) (by omega)) h9)
      exact kk _ _ _ _ _ (lv_sub hl [1, 2, 3, 4] rfl) hw rfl
    | succ n ih =>
      intro b hb9 V t H locs ls hl hw kk
      refine lv_iload hx hb dX1_flush_24 (lv_at hl 0 rfl) ?_
      refine lv_bipush (v := 16) hx hb dX1_flush_26 (by decide) ?_
      refine lv_icmp_ge (tgt := 64) hx hb dX1_flush_28 (by decide) (fun h9 => absurd h9 (nI_ge (a := b) (b := 16) (by omega) (by decide))) (fun _ => ?_)
      refine lv_aload_n hx hb dX1_flush_31 rfl (lv_at hl 4 rfl) ?_
      refine lv_iload_n hx hb dX1_flush_32 rfl (lv_at hl 2 rfl) ?_
      refine lv_iload hx hb dX1_flush_33 (lv_at hl 0 rfl) ?_
      refine m_ci (rest := []) ⟨hx, hb, hml, hown, hts⟩ (cm_stateOf l D o cA V p b (by omega) (by omega)) (cwm_stateOf hts ⟨by decide, by decide⟩) hw rfl hl.1 rfl (Nat.le_of_ble_eq_true rfl) dX1_flush_35 ⟨Nat.zero_le _, Nat.zero_le _⟩ (fun H locs hw => ?_)
      refine lv_if_le (tgt := 58) hx hb dX1_flush_38 (by decide) (fun g1 => ?_) (fun g1 => ?_)
      · refine lv_iinc (k := 0) (v := nI (b + 2)) (lv' := [(4, .int (nI (b + 2))), (3, .int (nI ln)), (2, .int (nI p)), (1, .int (nI t)), (0, .ref (o 0))]) hx hb dX1_flush_58 hl rfl (lw_inc b 2) (by decide) rfl (fun ls hl => ?_)
        refine lv_goto (tgt := 24) hx hb dX1_flush_61 (by decide) ?_
        exact ih (b + 2) (by omega) _ _ _ _ _ (lv_sub hl [0, 1, 2, 3, 4] rfl) hw (fun V' t' H locs ls hl hw he => kk V' t' H locs ls hl hw (by rw [he]; simp [mFlB, mFl1, g1]))
      · refine lv_aload_n hx hb dX1_flush_41 rfl (lv_at hl 4 rfl) ?_
        refine lv_iload_n hx hb dX1_flush_42 rfl (lv_at hl 2 rfl) ?_
        refine lv_iload hx hb dX1_flush_43 (lv_at hl 0 rfl) ?_
        refine m_ci (rest := []) ⟨hx, hb, hml, hown, hts⟩ (cm_empty l D o cA V p b (by omega) (by omega)) (cwm_empty hts ⟨by decide, by decide⟩) hw rfl hl.1 rfl (Nat.le_of_ble_eq_true rfl) dX1_flush_45 ⟨Nat.zero_le _, Nat.zero_le _⟩ (fun H locs hw => ?_)
        refine lv_istore (lv' := [(5, .int (bI (mDi (V.1 0 (16 * p + b))))), (4, .int (nI b)), (3, .int (nI ln)), (2, .int (nI p)), (1, .int (nI t)), (0, .ref (o 0))]) hx hb dX1_flush_48 hl (by decide) rfl (fun ls hl => ?_)
        refine lv_iload hx hb dX1_flush_50 (lv_at hl 0 rfl) ?_
        refine lv_if_eq (tgt := 58) hx hb dX1_flush_52 (by decide) (fun g2 => ?_) (fun g2 => ?_)
        · have g2 := bI_z.mp g2
          refine lv_iinc (k := 1) (v := nI (b + 2)) (lv' := [(4, .int (nI (b + 2))), (5, .int (bI (mDi (V.1 0 (16 * p + b))))), (3, .int (nI ln)), (2, .int (nI p)), (1, .int (nI t)), (0, .ref (o 0))]) hx hb dX1_flush_58 hl rfl (lw_inc b 2) (by decide) rfl (fun ls hl => ?_)
          refine lv_goto (tgt := 24) hx hb dX1_flush_61 (by decide) ?_
          exact ih (b + 2) (by omega) _ _ _ _ _ (lv_sub hl [0, 2, 3, 4, 5] rfl) hw (fun V' t' H locs ls hl hw he => kk V' t' H locs ls hl hw (by rw [he]; simp [mFlB, mFl1, g1, g2]))
        · have g2 := bI_n.mp g2
          refine lv_iinc (k := 4) (v := nI (t + 1)) (lv' := [(1, .int (nI (t + 1))), (5, .int (bI (mDi (V.1 0 (16 * p + b))))), (4, .int (nI b)), (3, .int (nI ln)), (2, .int (nI p)), (0, .ref (o 0))]) hx hb dX1_flush_55 hl rfl (lw_inc t 1) (by decide) rfl (fun ls hl => ?_)
          refine lv_iinc (k := 2) (v := nI (b + 2)) (lv' := [(4, .int (nI (b + 2))), (1, .int (nI (t + 1))), (5, .int (bI (mDi (V.1 0 (16 * p + b))))), (3, .int (nI ln)), (2, .int (nI p)), (0, .ref (o 0))]) hx hb dX1_flush_58 hl rfl (lw_inc b 2) (by decide) rfl (fun ls hl => ?_)
          refine lv_goto (tgt := 24) hx hb dX1_flush_61 (by decide) ?_
          exact ih (b + 2) (by omega) _ _ _ _ _ (lv_sub hl [0, 3, 4, 1, 5] rfl) hw (fun V' t' H locs ls hl hw he => kk V' t' H locs ls hl hw (by rw [he]; simp [mFlB, mFl1, g1, g2]))
  have outP : ∀ (n p : Nat), n + p = 4 → ∀ (V : SX) (t : Nat) (H : Heap) (locs : List Loc) (ls : Array Slot), lv_has ls 6 [(2, .int (nI p)), (1, .int (nI t)), (0, .ref (o 0))] → mW D o cA (mA o s.heap.size) s s.heap V H locs → mFlP n p (V, t) = mFlP 4 0 (zF S 4 0, 0) → W P0 l e (rmD 2) s m ([.ref (o 0)]).toArray below meth c H locs 0 0 (MQ below (mQi D o cA s.heap.size ((mFlP 4 0 (zF S 4 0, 0)).1) (nI (mFlP 4 0 (zF S 4 0, 0)).2)) ([.ref (o 0)]).toArray s 0 0 (mA o s.heap.size)) (F0 m 9 ls []) := by
    intro n
    induction n with
    | zero =>
      intro p hp V t H locs ls hl hw hf
      obtain rfl : p = 4 := by omega
      refine lv_iload_n hx hb dX1_flush_9 rfl (lv_at hl 0 rfl) ?_
      refine lv_iconst (v := 4) hx hb dX1_flush_10 (by decide) ?_
      refine lv_icmp_ge (tgt := 76) hx hb dX1_flush_11 (by decide) (fun _ => ?_) (fun h9 => absurd (by decide) h9)
      refine lv_iload_n hx hb dX1_flush_76 rfl (lv_at hl 1 rfl) ?_
      exact m_reti hx hb hr hlocks hw ⟨by rw [← hf]; rfl, by rw [← hf]; rfl⟩ dX1_flush_77
    | succ n ih =>
      intro p hp V t H locs ls hl hw hf
      refine lv_iload_n hx hb dX1_flush_9 rfl (lv_at hl 0 rfl) ?_
      refine lv_iconst (v := 4) hx hb dX1_flush_10 (by decide) ?_
      refine lv_icmp_ge (tgt := 76) hx hb dX1_flush_11 (by decide) (fun h9 => absurd h9 (nI_ge (a := p) (b := 4) (by omega) (by decide))) (fun _ => ?_)
      refine lv_iconst (v := 0) hx hb dX1_flush_14 (by decide) ?_
      refine lv_istore_n (lv' := [(3, .int 0), (2, .int (nI p)), (1, .int (nI t)), (0, .ref (o 0))]) hx hb dX1_flush_15 rfl hl (by decide) rfl (fun ls hl => ?_)
      refine lv_iload_n hx hb dX1_flush_16 rfl (lv_at hl 0 rfl) ?_
      refine lv_iconst (v := 2) hx hb dX1_flush_17 (by decide) ?_
      refine lv_icmp_ge (tgt := 70) hx hb dX1_flush_18 (by decide) (fun h9 => absurd h9 (by decide)) (fun _ => ?_)
      refine lv_iload_n hx hb dX1_flush_21 rfl (lv_at hl 0 rfl) ?_
      refine lv_istore (lv' := [(4, .int 0), (3, .int 0), (2, .int (nI p)), (1, .int (nI t)), (0, .ref (o 0))]) hx hb dX1_flush_22 hl (by decide) rfl (fun ls hl => ?_)
      refine inB p 0 (by omega) (by omega) 8 0 (by omega) _ _ _ _ _ (lv_sub hl [0, 1, 2, 3, 4] rfl) hw (fun V1 t1 H locs ls hl hw he1 => ?_)
      refine lv_iinc (k := 0) (v := nI (0 + 1)) (lv' := [(3, .int (nI (0 + 1))), (2, .int (nI p)), (1, .int (nI t1)), (0, .ref (o 0))]) hx hb dX1_flush_64 hl rfl (lw_inc 0 1) (by decide) rfl (fun ls hl => ?_)
      refine lv_goto (tgt := 16) hx hb dX1_flush_67 (by decide) ?_
      refine lv_iload_n hx hb dX1_flush_16 rfl (lv_at hl 0 rfl) ?_
      refine lv_iconst (v := 2) hx hb dX1_flush_17 (by decide) ?_
      refine lv_icmp_ge (tgt := 70) hx hb dX1_flush_18 (by decide) (fun h9 => absurd h9 (by decide)) (fun _ => ?_)
      refine lv_iload_n hx hb dX1_flush_21 rfl (lv_at hl 0 rfl) ?_
      refine lv_istore (lv' := [(4, .int (nI (0 + 1))), (3, .int (nI (0 + 1))), (2, .int (nI p)), (1, .int (nI t1)), (0, .ref (o 0))]) hx hb dX1_flush_22 hl (by decide) rfl (fun ls hl => ?_)
      refine inB p 1 (by omega) (by omega) 8 1 (by omega) _ _ _ _ _ (lv_sub hl [0, 1, 2, 3, 4] rfl) hw (fun V2 t2 H locs ls hl hw he2 => ?_)
      refine lv_iinc (k := 0) (v := nI (1 + 1)) (lv' := [(3, .int (nI (1 + 1))), (2, .int (nI p)), (1, .int (nI t2)), (0, .ref (o 0))]) hx hb dX1_flush_64 hl rfl (lw_inc 1 1) (by decide) rfl (fun ls hl => ?_)
      refine lv_goto (tgt := 16) hx hb dX1_flush_67 (by decide) ?_
      refine lv_iload_n hx hb dX1_flush_16 rfl (lv_at hl 0 rfl) ?_
      refine lv_iconst (v := 2) hx hb dX1_flush_17 (by decide) ?_
      refine lv_icmp_ge (tgt := 70) hx hb dX1_flush_18 (by decide) (fun _ => ?_) (fun h9 => absurd (by decide) h9)
      refine lv_iinc (k := 1) (v := nI (p + 1)) (lv' := [(2, .int (nI (p + 1))), (3, .int (nI (1 + 1))), (1, .int (nI t2)), (0, .ref (o 0))]) hx hb dX1_flush_70 hl rfl (lw_inc p 1) (by decide) rfl (fun ls hl => ?_)
      refine lv_goto (tgt := 9) hx hb dX1_flush_73 (by decide) ?_
      exact ih (p + 1) (by omega) _ _ _ _ _ (lv_sub hl [0, 2, 3] rfl) hw (by rw [← hf, he2, he1]; rfl)
  refine lv_aload_n hx hb dX1_flush_0 rfl (lv_at hl 0 rfl) ?_
  refine lv_iconst (v := 0) hx hb dX1_flush_1 (by decide) ?_
  refine m_p4 (x := 0) hx hb hts hown hw dX1_flush_2 (fun H locs hw => ?_)
  refine lv_iconst (v := 0) hx hb dX1_flush_5 (by decide) ?_
  refine lv_istore_n (lv' := [(1, .int 0), (0, .ref (o 0))]) hx hb dX1_flush_6 rfl hl (by decide) rfl (fun ls hl => ?_)
  refine lv_iconst (v := 0) hx hb dX1_flush_7 (by decide) ?_
  refine lv_istore_n (lv' := [(2, .int 0), (1, .int 0), (0, .ref (o 0))]) hx hb dX1_flush_8 rfl hl (by decide) rfl (fun ls hl => ?_)
  exact outP 4 0 rfl _ 0 _ _ _ (lv_sub hl [0, 1, 2] rfl) hw rfl
set_option maxRecDepth 100000 in
set_option maxHeartbeats 4000000 in
theorem cm_choose_bad (l : Launch) (D : va_G) (o : Nat → Nat) (cA : ClassId) (S : SX) (x : Int32) (hbad : x < 0 ∨ ¬ x ≤ 3) : mMi l D o cA yX1_choose cX1_choose 3 (some .boolean) 0 [.ref (o 0), .int x] S (zF S 4 0) (bI false) := by
  intro sz
  refine m_met (by decide) rfl (Nat.le_of_ble_eq_true rfl) ?_
  intro P0 e s m below meth c ls hsz hx hb hml hr hlocks hown hts hl hw
  subst hsz
  have hl : lv_has ls 3 [(0, .ref (o 0)), (1, .int x)] := hl
  refine lv_aload_n hx hb dX1_choose_0 rfl (lv_at hl 0 rfl) ?_
  refine lv_iconst (v := 0) hx hb dX1_choose_1 (by decide) ?_
  refine m_p4 (x := 0) hx hb hts hown hw dX1_choose_2 (fun H locs hw => ?_)
  refine lv_iload_n hx hb dX1_choose_5 rfl (lv_at hl 1 rfl) ?_
  refine lv_if_lt (tgt := 14) hx hb dX1_choose_6 (by decide) (fun g1 => ?_) (fun g1 => ?_)
  · refine lv_iconst (v := 0) hx hb dX1_choose_14 (by decide) ?_
    exact m_retz hx hb hr hlocks hw ⟨rfl, rfl⟩ dX1_choose_15
  · refine lv_iload_n hx hb dX1_choose_9 rfl (lv_at hl 1 rfl) ?_
    refine lv_iconst (v := 3) hx hb dX1_choose_10 (by decide) ?_
    refine lv_icmp_le (tgt := 16) hx hb dX1_choose_11 (by decide) (fun h9 => absurd h9 (hbad.resolve_left g1)) (fun _ => ?_)
    refine lv_iconst (v := 0) hx hb dX1_choose_14 (by decide) ?_
    exact m_retz hx hb hr hlocks hw ⟨rfl, rfl⟩ dX1_choose_15
set_option maxRecDepth 100000 in
set_option maxHeartbeats 4000000 in
theorem cm_choose (l : Launch) (D : va_G) (o : Nat → Nat) (cA : ClassId) (S : SX) (x : Int32) (hx0 : ¬ x < 0) (hx3 : x ≤ 3) : mMi l D o cA yX1_choose cX1_choose 3 (some .boolean) 0 [.ref (o 0), .int x] S (mCh (zF S 4 0) x) (bI true) := by
  intro sz
  refine m_met (by decide) rfl (Nat.le_of_ble_eq_true rfl) ?_
  intro P0 e s m below meth c ls hsz hx hb hml hr hlocks hown hts hl hw
  subst hsz
  have hl : lv_has ls 3 [(0, .ref (o 0)), (1, .int x)] := hl
  have fin : ∀ (H : Heap) (locs : List Loc) (ls : Array Slot), lv_has ls 3 [(0, .ref (o 0)), (1, .int x)] → mW D o cA (mA o s.heap.size) s s.heap (zA (zA (zA (zF S 4 0) 0 (fun _ => 0)) 2 (fun _ => 0)) 3 (fun _ => 0)) H locs → W P0 l e (rmD 0) s m ([.ref (o 0), .int x]).toArray below meth c H locs 0 0 (MQ below (mQi D o cA s.heap.size (mCh (zF S 4 0) x) (bI true)) ([.ref (o 0), .int x]).toArray s 0 0 (mA o s.heap.size)) (F0 m 78 ls []) := by
    intro H locs ls hl hw
    refine lv_aload_n hx hb dX1_choose_78 rfl (lv_at hl 0 rfl) ?_
    refine lv_iload_n hx hb dX1_choose_79 rfl (lv_at hl 1 rfl) ?_
    refine m_p0 (x := x) hx hb hts hown hw dX1_choose_80 (fun H locs hw => ?_)
    refine lv_aload_n hx hb dX1_choose_83 rfl (lv_at hl 0 rfl) ?_
    refine lv_iconst (v := 0) hx hb dX1_choose_84 (by decide) ?_
    refine m_p1 (x := 0) hx hb hts hown hw dX1_choose_85 (fun H locs hw => ?_)
    refine lv_aload_n hx hb dX1_choose_88 rfl (lv_at hl 0 rfl) ?_
    refine lv_iconst (v := 0) hx hb dX1_choose_89 (by decide) ?_
    refine m_p2 (x := 0) hx hb hts hown hw dX1_choose_90 (fun H locs hw => ?_)
    refine lv_aload_n hx hb dX1_choose_93 rfl (lv_at hl 0 rfl) ?_
    refine lv_iconst (v := 0) hx hb dX1_choose_94 (by decide) ?_
    refine m_p3 (x := 0) hx hb hts hown hw dX1_choose_95 (fun H locs hw => ?_)
    refine lv_iconst (v := 1) hx hb dX1_choose_98 (by decide) ?_
    exact m_retz hx hb hr hlocks hw ⟨rfl, rfl⟩ dX1_choose_99
  have lp3 : ∀ (n k : Nat), n + k = 5 → ∀ (f : Nat → Int32) (H : Heap) (locs : List Loc) (ls : Array Slot), lv_has ls 3 [(2, .int (nI k)), (0, .ref (o 0)), (1, .int x)] → mW D o cA (mA o s.heap.size) s s.heap (zA (zA (zA (zF S 4 0) 0 (fun _ => 0)) 2 (fun _ => 0)) 3 f) H locs → (∀ j, j < k → f j = 0) → W P0 l e (rmD 0) s m ([.ref (o 0), .int x]).toArray below meth c H locs 0 0 (MQ below (mQi D o cA s.heap.size (mCh (zF S 4 0) x) (bI true)) ([.ref (o 0), .int x]).toArray s 0 0 (mA o s.heap.size)) (F0 m 60 ls []) := by
    intro n
    induction n with
    | zero =>
      intro k hk f H locs ls hl hw hf
      obtain rfl : k = 5 := by omega
      refine lv_iload_n hx hb dX1_choose_60 rfl (lv_at hl 0 rfl) ?_
      refine lv_iconst (v := 5) hx hb dX1_choose_61 (by decide) ?_
      refine lv_icmp_ge (tgt := 78) hx hb dX1_choose_62 (by decide) (fun _ => ?_) (fun h9 => absurd (by decide) h9)
      have hw : mW D o cA (mA o s.heap.size) s s.heap (zA (zA (zA (zF S 4 0) 0 (fun _ => 0)) 2 (fun _ => 0)) 3 (fun _ => 0)) H locs := by have h7 := m_e3 (f := fun _ => 0) hw (fun j hj => by rw [zA_s]; exact hf j hj); rw [zA_zA] at h7; exact h7
      exact fin _ _ _ (lv_sub hl [1, 2] rfl) hw
    | succ n ih =>
      intro k hk f H locs ls hl hw hf
      refine lv_iload_n hx hb dX1_choose_60 rfl (lv_at hl 0 rfl) ?_
      refine lv_iconst (v := 5) hx hb dX1_choose_61 (by decide) ?_
      refine lv_icmp_ge (tgt := 78) hx hb dX1_choose_62 (by decide) (fun h9 => absurd h9 (nI_ge (a := k) (b := 5) (by omega) (by decide))) (fun _ => ?_)
      refine lv_aload_n hx hb dX1_choose_65 rfl (lv_at hl 1 rfl) ?_
      refine m_g3 hx hb hts hown hw dX1_choose_66 ?_
      refine lv_iload_n hx hb dX1_choose_69 rfl (lv_at hl 0 rfl) ?_
      refine lv_iconst (v := 0) hx hb dX1_choose_70 (by decide) ?_
      refine m_s3 (n := k) (x := 0) hx hb hw (by omega) dX1_choose_71 (fun H locs hw => ?_)
      rw [zA_zA, zA_s] at hw
      refine lv_iinc (k := 0) (v := nI (k + 1)) (lv' := [(2, .int (nI (k + 1))), (0, .ref (o 0)), (1, .int x)]) hx hb dX1_choose_72 hl rfl (lw_inc k 1) (by decide) rfl (fun ls hl => ?_)
      refine lv_goto (tgt := 60) hx hb dX1_choose_75 (by decide) ?_
      exact ih (k + 1) (by omega) _ _ _ _ (lv_sub hl [0, 1, 2] rfl) hw (fun j hj => by by_cases h6 : j = k; (· rw [h6, pk_us]); (· rw [pk_un h6]; exact hf j (by omega)))
  have lp2 : ∀ (n k : Nat), n + k = 32 → ∀ (f : Nat → Int32) (H : Heap) (locs : List Loc) (ls : Array Slot), lv_has ls 3 [(2, .int (nI k)), (0, .ref (o 0)), (1, .int x)] → mW D o cA (mA o s.heap.size) s s.heap (zA (zA (zF S 4 0) 0 (fun _ => 0)) 2 f) H locs → (∀ j, j < k → f j = 0) → W P0 l e (rmD 0) s m ([.ref (o 0), .int x]).toArray below meth c H locs 0 0 (MQ below (mQi D o cA s.heap.size (mCh (zF S 4 0) x) (bI true)) ([.ref (o 0), .int x]).toArray s 0 0 (mA o s.heap.size)) (F0 m 39 ls []) := by
    intro n
    induction n with
    | zero =>
      intro k hk f H locs ls hl hw hf
      obtain rfl : k = 32 := by omega
      refine lv_iload_n hx hb dX1_choose_39 rfl (lv_at hl 0 rfl) ?_
      refine lv_bipush (v := 32) hx hb dX1_choose_40 (by decide) ?_
      refine lv_icmp_ge (tgt := 58) hx hb dX1_choose_42 (by decide) (fun _ => ?_) (fun h9 => absurd (by decide) h9)
      have hw : mW D o cA (mA o s.heap.size) s s.heap (zA (zA (zF S 4 0) 0 (fun _ => 0)) 2 (fun _ => 0)) H locs := by have h7 := m_e2 (f := fun _ => 0) hw (fun j hj => by rw [zA_s]; exact hf j hj); rw [zA_zA] at h7; exact h7
      refine lv_iconst (v := 0) hx hb dX1_choose_58 (by decide) ?_
      refine lv_istore_n (lv' := [(2, .int 0), (0, .ref (o 0)), (1, .int x)]) hx hb dX1_choose_59 rfl hl (by decide) rfl (fun ls hl => ?_)
      exact lp3 _ 0 rfl ((zA (zA (zF S 4 0) 0 (fun _ => 0)) 2 (fun _ => 0)).1 3) _ _ _ (lv_sub hl [0, 1, 2] rfl) (by rw [zA_id]; exact hw) (fun j hj => absurd hj (Nat.not_lt_zero j))
    | succ n ih =>
      intro k hk f H locs ls hl hw hf
      refine lv_iload_n hx hb dX1_choose_39 rfl (lv_at hl 0 rfl) ?_
      refine lv_bipush (v := 32) hx hb dX1_choose_40 (by decide) ?_
      refine lv_icmp_ge (tgt := 58) hx hb dX1_choose_42 (by decide) (fun h9 => absurd h9 (nI_ge (a := k) (b := 32) (by omega) (by decide))) (fun _ => ?_)
      refine lv_aload_n hx hb dX1_choose_45 rfl (lv_at hl 1 rfl) ?_
      refine m_g2 hx hb hts hown hw dX1_choose_46 ?_
      refine lv_iload_n hx hb dX1_choose_49 rfl (lv_at hl 0 rfl) ?_
      refine lv_iconst (v := 0) hx hb dX1_choose_50 (by decide) ?_
      refine m_s2 (n := k) (x := 0) hx hb hw (by omega) dX1_choose_51 (fun H locs hw => ?_)
      rw [zA_zA, zA_s] at hw
      refine lv_iinc (k := 0) (v := nI (k + 1)) (lv' := [(2, .int (nI (k + 1))), (0, .ref (o 0)), (1, .int x)]) hx hb dX1_choose_52 hl rfl (lw_inc k 1) (by decide) rfl (fun ls hl => ?_)
      refine lv_goto (tgt := 39) hx hb dX1_choose_55 (by decide) ?_
      exact ih (k + 1) (by omega) _ _ _ _ (lv_sub hl [0, 1, 2] rfl) hw (fun j hj => by by_cases h6 : j = k; (· rw [h6, pk_us]); (· rw [pk_un h6]; exact hf j (by omega)))
  have lp1 : ∀ (n k : Nat), n + k = 64 → ∀ (f : Nat → Int32) (H : Heap) (locs : List Loc) (ls : Array Slot), lv_has ls 3 [(2, .int (nI k)), (0, .ref (o 0)), (1, .int x)] → mW D o cA (mA o s.heap.size) s s.heap (zA (zF S 4 0) 0 f) H locs → (∀ j, j < k → f j = 0) → W P0 l e (rmD 0) s m ([.ref (o 0), .int x]).toArray below meth c H locs 0 0 (MQ below (mQi D o cA s.heap.size (mCh (zF S 4 0) x) (bI true)) ([.ref (o 0), .int x]).toArray s 0 0 (mA o s.heap.size)) (F0 m 18 ls []) := by
    intro n
    induction n with
    | zero =>
      intro k hk f H locs ls hl hw hf
      obtain rfl : k = 64 := by omega
      refine lv_iload_n hx hb dX1_choose_18 rfl (lv_at hl 0 rfl) ?_
      refine lv_bipush (v := 64) hx hb dX1_choose_19 (by decide) ?_
      refine lv_icmp_ge (tgt := 37) hx hb dX1_choose_21 (by decide) (fun _ => ?_) (fun h9 => absurd (by decide) h9)
      have hw : mW D o cA (mA o s.heap.size) s s.heap (zA (zF S 4 0) 0 (fun _ => 0)) H locs := by have h7 := m_e0 (f := fun _ => 0) hw (fun j hj => by rw [zA_s]; exact hf j hj); rw [zA_zA] at h7; exact h7
      refine lv_iconst (v := 0) hx hb dX1_choose_37 (by decide) ?_
      refine lv_istore_n (lv' := [(2, .int 0), (0, .ref (o 0)), (1, .int x)]) hx hb dX1_choose_38 rfl hl (by decide) rfl (fun ls hl => ?_)
      exact lp2 _ 0 rfl ((zA (zF S 4 0) 0 (fun _ => 0)).1 2) _ _ _ (lv_sub hl [0, 1, 2] rfl) (by rw [zA_id]; exact hw) (fun j hj => absurd hj (Nat.not_lt_zero j))
    | succ n ih =>
      intro k hk f H locs ls hl hw hf
      refine lv_iload_n hx hb dX1_choose_18 rfl (lv_at hl 0 rfl) ?_
      refine lv_bipush (v := 64) hx hb dX1_choose_19 (by decide) ?_
      refine lv_icmp_ge (tgt := 37) hx hb dX1_choose_21 (by decide) (fun h9 => absurd h9 (nI_ge (a := k) (b := 64) (by omega) (by decide))) (fun _ => ?_)
      refine lv_aload_n hx hb dX1_choose_24 rfl (lv_at hl 1 rfl) ?_
      refine m_g0 hx hb hts hown hw dX1_choose_25 ?_
      refine lv_iload_n hx hb dX1_choose_28 rfl (lv_at hl 0 rfl) ?_
      refine lv_iconst (v := 0) hx hb dX1_choose_29 (by decide) ?_
      refine m_s0 (n := k) (x := 0) hx hb hw (by omega) dX1_choose_30 (fun H locs hw => ?_)
      rw [zA_zA, zA_s] at hw
      refine lv_iinc (k := 0) (v := nI (k + 1)) (lv' := [(2, .int (nI (k + 1))), (0, .ref (o 0)), (1, .int x)]) hx hb dX1_choose_31 hl rfl (lw_inc k 1) (by decide) rfl (fun ls hl => ?_)
      refine lv_goto (tgt := 18) hx hb dX1_choose_34 (by decide) ?_
      exact ih (k + 1) (by omega) _ _ _ _ (lv_sub hl [0, 1, 2] rfl) hw (fun j hj => by by_cases h6 : j = k; (· rw [h6, pk_us]); (· rw [pk_un h6]; exact hf j (by omega)))
  refine lv_aload_n hx hb dX1_choose_0 rfl (lv_at hl 0 rfl) ?_
  refine lv_iconst (v := 0) hx hb dX1_choose_1 (by decide) ?_
  refine m_p4 (x := 0) hx hb hts hown hw dX1_choose_2 (fun H locs hw => ?_)
  refine lv_iload_n hx hb dX1_choose_5 rfl (lv_at hl 1 rfl) ?_
  refine lv_if_lt (tgt := 14) hx hb dX1_choose_6 (by decide) (fun h9 => absurd h9 (hx0)) (fun _ => ?_)
  refine lv_iload_n hx hb dX1_choose_9 rfl (lv_at hl 1 rfl) ?_
  refine lv_iconst (v := 3) hx hb dX1_choose_10 (by decide) ?_
  refine lv_icmp_le (tgt := 16) hx hb dX1_choose_11 (by decide) (fun _ => ?_) (fun h9 => absurd (hx3) h9)
  refine lv_iconst (v := 0) hx hb dX1_choose_16 (by decide) ?_
  refine lv_istore_n (lv' := [(2, .int 0), (0, .ref (o 0)), (1, .int x)]) hx hb dX1_choose_17 rfl hl (by decide) rfl (fun ls hl => ?_)
  exact lp1 _ 0 rfl ((zF S 4 0).1 0) _ _ _ (lv_sub hl [0, 1, 2] rfl) (by rw [zA_id]; exact hw) (fun j hj => absurd hj (Nat.not_lt_zero j))
