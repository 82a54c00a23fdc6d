set_option maxRecDepth 100000 in
set_option maxHeartbeats 4000000 in
theorem cx_isProcessor (l : Launch) (x : Int32)  : sM l yX0_isProcessor cX0_isProcessor 1 (some .boolean) 0 [.int x] (bI (inR x 4)) := by
  refine s_met (by decide) rfl (Nat.le_of_ble_eq_true rfl) ?_
  intro P0 e s m below meth c ls hx hb hml hr hlocks hown hts hl hw
  have hl : lv_has ls 1 [(0, .int x)] := hl
  refine lv_iload_n hx hb dX0_isProcessor_0 rfl (lv_at hl 0 rfl) ?_
  refine lv_if_lt (tgt := 13) hx hb dX0_isProcessor_1 (by decide) (fun g1 => ?_) (fun g1 => ?_)
  · refine lv_iconst (v := 0) hx hb dX0_isProcessor_13 (by decide) ?_
    exact s_retz hx hb hr hlocks hw (by simp [inR, bI, g1]) dX0_isProcessor_14
  · refine lv_iload_n hx hb dX0_isProcessor_4 rfl (lv_at hl 0 rfl) ?_
    refine lv_iconst (v := 4) hx hb dX0_isProcessor_5 (by decide) ?_
    refine lv_icmp_ge (tgt := 13) hx hb dX0_isProcessor_6 (by decide) (fun g2 => ?_) (fun g2 => ?_)
    · refine lv_iconst (v := 0) hx hb dX0_isProcessor_13 (by decide) ?_
      exact s_retz hx hb hr hlocks hw (by simp [inR, bI, g1, g2]) dX0_isProcessor_14
    · refine lv_iconst (v := 1) hx hb dX0_isProcessor_9 (by decide) ?_
      refine lv_goto (tgt := 14) hx hb dX0_isProcessor_10 (by decide) ?_
      exact s_retz hx hb hr hlocks hw (by simp [inR, bI, g1, g2]) dX0_isProcessor_14
theorem cwx_isProcessor {R : Room} {s : State} {args : Array Value} (hts : ∀ w ∈ GT, w.before args s = true) (hR : 0 + 1 ≤ R.frames ∧ 8 + (1 + 11) + 40 * 0 ≤ R.locals) : CallB R s args RX0 36 yX0_isProcessor cX0_isProcessor 1 (some .boolean) ((.code yX0_isProcessor cX0_isProcessor 1 (some .boolean) : Cond) :: GT) (rmD 0) 0 0 1 ∧ (Cond.static yX0_isProcessor).before args s = true :=
  va_cwS 1 hts (show GoodIn GT (va_wsS RX0 36 yX0_isProcessor ((.code yX0_isProcessor cX0_isProcessor 1 (some .boolean) : Cond) :: GT)) from lw_gin (lw_gin (lw_gin (lw_gin lw_self gw_68) gw_1) gw_67) gw_66) rfl rfl rfl (by decide +kernel) hR
set_option maxRecDepth 100000 in
set_option maxHeartbeats 4000000 in
theorem cx_isAddress (l : Launch) (x : Int32)  : sM l yX0_isAddress cX0_isAddress 1 (some .boolean) 0 [.int x] (bI (inR x 32)) := by
  refine s_met (by decide) rfl (Nat.le_of_ble_eq_true rfl) ?_
  intro P0 e s m below meth c ls hx hb hml hr hlocks hown hts hl hw
  have hl : lv_has ls 1 [(0, .int x)] := hl
  refine lv_iload_n hx hb dX0_isAddress_0 rfl (lv_at hl 0 rfl) ?_
  refine lv_if_lt (tgt := 14) hx hb dX0_isAddress_1 (by decide) (fun g1 => ?_) (fun g1 => ?_)
  · refine lv_iconst (v := 0) hx hb dX0_isAddress_14 (by decide) ?_
    exact s_retz hx hb hr hlocks hw (by simp [inR, bI, g1]) dX0_isAddress_15
  · refine lv_iload_n hx hb dX0_isAddress_4 rfl (lv_at hl 0 rfl) ?_
    refine lv_bipush (v := 32) hx hb dX0_isAddress_5 (by decide) ?_
    refine lv_icmp_ge (tgt := 14) hx hb dX0_isAddress_7 (by decide) (fun g2 => ?_) (fun g2 => ?_)
    · refine lv_iconst (v := 0) hx hb dX0_isAddress_14 (by decide) ?_
      exact s_retz hx hb hr hlocks hw (by simp [inR, bI, g1, g2]) dX0_isAddress_15
    · refine lv_iconst (v := 1) hx hb dX0_isAddress_10 (by decide) ?_
      refine lv_goto (tgt := 15) hx hb dX0_isAddress_11 (by decide) ?_
      exact s_retz hx hb hr hlocks hw (by simp [inR, bI, g1, g2]) dX0_isAddress_15
theorem cwx_isAddress {R : Room} {s : State} {args : Array Value} (hts : ∀ w ∈ GT, w.before args s = true) (hR : 0 + 1 ≤ R.frames ∧ 8 + (1 + 11) + 40 * 0 ≤ R.locals) : CallB R s args RX0 40 yX0_isAddress cX0_isAddress 1 (some .boolean) ((.code yX0_isAddress cX0_isAddress 1 (some .boolean) : Cond) :: GT) (rmD 0) 0 0 1 ∧ (Cond.static yX0_isAddress).before args s = true :=
  va_cwS 1 hts (show GoodIn GT (va_wsS RX0 40 yX0_isAddress ((.code yX0_isAddress cX0_isAddress 1 (some .boolean) : Cond) :: GT)) from lw_gin (lw_gin (lw_gin (lw_gin lw_self gw_84) gw_1) gw_83) gw_82) rfl rfl rfl (by decide +kernel) hR
set_option maxRecDepth 100000 in
set_option maxHeartbeats 4000000 in
theorem cx_isBlock (l : Launch) (x : Int32)  : sM l yX0_isBlock cX0_isBlock 1 (some .boolean) 0 [.int x] (bI (inR x 16)) := by
  refine s_met (by decide) rfl (Nat.le_of_ble_eq_true rfl) ?_
  intro P0 e s m below meth c ls hx hb hml hr hlocks hown hts hl hw
  have hl : lv_has ls 1 [(0, .int x)] := hl
  refine lv_iload_n hx hb dX0_isBlock_0 rfl (lv_at hl 0 rfl) ?_
  refine lv_if_lt (tgt := 14) hx hb dX0_isBlock_1 (by decide) (fun g1 => ?_) (fun g1 => ?_)
  · refine lv_iconst (v := 0) hx hb dX0_isBlock_14 (by decide) ?_
    exact s_retz hx hb hr hlocks hw (by simp [inR, bI, g1]) dX0_isBlock_15
  · refine lv_iload_n hx hb dX0_isBlock_4 rfl (lv_at hl 0 rfl) ?_
    refine lv_bipush (v := 16) hx hb dX0_isBlock_5 (by decide) ?_
    refine lv_icmp_ge (tgt := 14) hx hb dX0_isBlock_7 (by decide) (fun g2 => ?_) (fun g2 => ?_)
    · refine lv_iconst (v := 0) hx hb dX0_isBlock_14 (by decide) ?_
      exact s_retz hx hb hr hlocks hw (by simp [inR, bI, g1, g2]) dX0_isBlock_15
    · refine lv_iconst (v := 1) hx hb dX0_isBlock_10 (by decide) ?_
      refine lv_goto (tgt := 15) hx hb dX0_isBlock_11 (by decide) ?_
      exact s_retz hx hb hr hlocks hw (by simp [inR, bI, g1, g2]) dX0_isBlock_15
theorem cwx_isBlock {R : Room} {s : State} {args : Array Value} (hts : ∀ w ∈ GT, w.before args s = true) (hR : 0 + 1 ≤ R.frames ∧ 8 + (1 + 11) + 40 * 0 ≤ R.locals) : CallB R s args RX0 76 yX0_isBlock cX0_isBlock 1 (some .boolean) ((.code yX0_isBlock cX0_isBlock 1 (some .boolean) : Cond) :: GT) (rmD 0) 0 0 1 ∧ (Cond.static yX0_isBlock).before args s = true :=
  va_cwS 1 hts (show GoodIn GT (va_wsS RX0 76 yX0_isBlock ((.code yX0_isBlock cX0_isBlock 1 (some .boolean) : Cond) :: GT)) from lw_gin (lw_gin (lw_gin (lw_gin lw_self gw_71) gw_1) gw_70) gw_69) rfl rfl rfl (by decide +kernel) hR
set_option maxRecDepth 100000 in
set_option maxHeartbeats 4000000 in
theorem cx_isDirty (l : Launch) (x : Int32)  : sM l yX0_isDirty cX0_isDirty 1 (some .boolean) 0 [.int x] (bI (xDi x)) := by
  refine s_met (by decide) rfl (Nat.le_of_ble_eq_true rfl) ?_
  intro P0 e s m below meth c ls hx hb hml hr hlocks hown hts hl hw
  have hl : lv_has ls 1 [(0, .int x)] := hl
  refine lv_iload_n hx hb dX0_isDirty_0 rfl (lv_at hl 0 rfl) ?_
  refine lv_iconst (v := 3) hx hb dX0_isDirty_1 (by decide) ?_
  refine lv_icmp_eq (tgt := 10) hx hb dX0_isDirty_2 (by decide) (fun g1 => ?_) (fun g1 => ?_)
  · refine lv_iconst (v := 1) hx hb dX0_isDirty_10 (by decide) ?_
    refine lv_goto (tgt := 15) hx hb dX0_isDirty_11 (by decide) ?_
    exact s_retz hx hb hr hlocks hw (by simp [xDi, bI, g1]) dX0_isDirty_15
  · refine lv_iload_n hx hb dX0_isDirty_5 rfl (lv_at hl 0 rfl) ?_
    refine lv_iconst (v := 4) hx hb dX0_isDirty_6 (by decide) ?_
    refine lv_icmp_ne (tgt := 14) hx hb dX0_isDirty_7 (by decide) (fun g2 => ?_) (fun g2 => ?_)
    · refine lv_iconst (v := 0) hx hb dX0_isDirty_14 (by decide) ?_
      exact s_retz hx hb hr hlocks hw (by simp [xDi, bI, g1, g2]) dX0_isDirty_15
    · refine lv_iconst (v := 1) hx hb dX0_isDirty_10 (by decide) ?_
      refine lv_goto (tgt := 15) hx hb dX0_isDirty_11 (by decide) ?_
      exact s_retz hx hb hr hlocks hw (by simp [xDi, bI, g1, g2]) dX0_isDirty_15
theorem cwx_isDirty {R : Room} {s : State} {args : Array Value} (hts : ∀ w ∈ GT, w.before args s = true) (hR : 0 + 1 ≤ R.frames ∧ 8 + (1 + 11) + 40 * 0 ≤ R.locals) : CallB R s args RX0 114 yX0_isDirty cX0_isDirty 1 (some .boolean) ((.code yX0_isDirty cX0_isDirty 1 (some .boolean) : Cond) :: GT) (rmD 0) 0 0 1 ∧ (Cond.static yX0_isDirty).before args s = true :=
  va_cwS 1 hts (show GoodIn GT (va_wsS RX0 114 yX0_isDirty ((.code yX0_isDirty cX0_isDirty 1 (some .boolean) : Cond) :: GT)) from lw_gin (lw_gin (lw_gin (lw_gin lw_self gw_52) gw_1) gw_51) gw_50) rfl rfl rfl (by decide +kernel) hR
set_option maxRecDepth 100000 in
set_option maxHeartbeats 4000000 in
theorem cx_isPerhapsElsewhere (l : Launch) (x : Int32)  : sM l yX0_isPerhapsElsewhere cX0_isPerhapsElsewhere 1 (some .boolean) 0 [.int x] (bI (xEl x)) := by
  refine s_met (by decide) rfl (Nat.le_of_ble_eq_true rfl) ?_
  intro P0 e s m below meth c ls hx hb hml hr hlocks hown hts hl hw
  have hl : lv_has ls 1 [(0, .int x)] := hl
  refine lv_iload_n hx hb dX0_isPerhapsElsewhere_0 rfl (lv_at hl 0 rfl) ?_
  refine lv_iconst (v := 1) hx hb dX0_isPerhapsElsewhere_1 (by decide) ?_
  refine lv_icmp_eq (tgt := 10) hx hb dX0_isPerhapsElsewhere_2 (by decide) (fun g1 => ?_) (fun g1 => ?_)
  · refine lv_iconst (v := 1) hx hb dX0_isPerhapsElsewhere_10 (by decide) ?_
    refine lv_goto (tgt := 15) hx hb dX0_isPerhapsElsewhere_11 (by decide) ?_
    exact s_retz hx hb hr hlocks hw (by simp [xEl, bI, g1]) dX0_isPerhapsElsewhere_15
  · refine lv_iload_n hx hb dX0_isPerhapsElsewhere_5 rfl (lv_at hl 0 rfl) ?_
    refine lv_iconst (v := 3) hx hb dX0_isPerhapsElsewhere_6 (by decide) ?_
    refine lv_icmp_ne (tgt := 14) hx hb dX0_isPerhapsElsewhere_7 (by decide) (fun g2 => ?_) (fun g2 => ?_)
    · refine lv_iconst (v := 0) hx hb dX0_isPerhapsElsewhere_14 (by decide) ?_
      exact s_retz hx hb hr hlocks hw (by simp [xEl, bI, g1, g2]) dX0_isPerhapsElsewhere_15
    · refine lv_iconst (v := 1) hx hb dX0_isPerhapsElsewhere_10 (by decide) ?_
      refine lv_goto (tgt := 15) hx hb dX0_isPerhapsElsewhere_11 (by decide) ?_
      exact s_retz hx hb hr hlocks hw (by simp [xEl, bI, g1, g2]) dX0_isPerhapsElsewhere_15
theorem cwx_isPerhapsElsewhere {R : Room} {s : State} {args : Array Value} (hts : ∀ w ∈ GT, w.before args s = true) (hR : 0 + 1 ≤ R.frames ∧ 8 + (1 + 11) + 40 * 0 ≤ R.locals) : CallB R s args RX0 141 yX0_isPerhapsElsewhere cX0_isPerhapsElsewhere 1 (some .boolean) ((.code yX0_isPerhapsElsewhere cX0_isPerhapsElsewhere 1 (some .boolean) : Cond) :: GT) (rmD 0) 0 0 1 ∧ (Cond.static yX0_isPerhapsElsewhere).before args s = true :=
  va_cwS 1 hts (show GoodIn GT (va_wsS RX0 141 yX0_isPerhapsElsewhere ((.code yX0_isPerhapsElsewhere cX0_isPerhapsElsewhere 1 (some .boolean) : Cond) :: GT)) from lw_gin (lw_gin (lw_gin (lw_gin lw_self gw_158) gw_1) gw_157) gw_156) rfl rfl rfl (by decide +kernel) hR
set_option maxRecDepth 100000 in
set_option maxHeartbeats 4000000 in
theorem cx_blockOf (l : Launch) (a : Nat) (ha : a < 32) : sM l yX0_blockOf cX0_blockOf 1 (some .int) 0 [.int (nI a)] (nI (a / 2)) := by
  refine s_met (by decide) rfl (Nat.le_of_ble_eq_true rfl) ?_
  intro P0 e s m below meth c ls hx hb hml hr hlocks hown hts hl hw
  have hl : lv_has ls 1 [(0, .int (nI a))] := hl
  refine lv_iload_n hx hb dX0_blockOf_0 rfl (lv_at hl 0 rfl) ?_
  refine lv_iconst (v := 2) hx hb dX0_blockOf_1 (by decide) ?_
  refine lv_idiv hx hb dX0_blockOf_2 (by decide) ?_
  refine lw_top (y := nI (a / 2)) (pk_div (a := a) (d := 2) (by omega) (by decide) (by decide)) ?_
  exact s_ret hx hb hr hlocks hw rfl dX0_blockOf_3
theorem cwx_blockOf {R : Room} {s : State} {args : Array Value} (hts : ∀ w ∈ GT, w.before args s = true) (hR : 0 + 1 ≤ R.frames ∧ 8 + (1 + 11) + 40 * 0 ≤ R.locals) : CallB R s args RX0 50 yX0_blockOf cX0_blockOf 1 (some .int) ((.code yX0_blockOf cX0_blockOf 1 (some .int) : Cond) :: GT) (rmD 0) 0 0 1 ∧ (Cond.static yX0_blockOf).before args s = true :=
  va_cwS 1 hts (show GoodIn GT (va_wsS RX0 50 yX0_blockOf ((.code yX0_blockOf cX0_blockOf 1 (some .int) : Cond) :: GT)) from lw_gin (lw_gin (lw_gin (lw_gin lw_self gw_87) gw_1) gw_86) gw_85) rfl rfl rfl (by decide +kernel) hR
set_option maxRecDepth 100000 in
set_option maxHeartbeats 4000000 in
theorem cx_lineFor (l : Launch) (u b : Nat) (hu : u < 4) (hbb : b < 16) : sM l yX0_lineFor cX0_lineFor 2 (some .int) 0 [.int (nI u), .int (nI b)] (nI (2 * u + b % 2)) := by
  refine s_met (by decide) rfl (Nat.le_of_ble_eq_true rfl) ?_
  intro P0 e s m below meth c ls hx hb hml hr hlocks hown hts hl hw
  have hl : lv_has ls 2 [(0, .int (nI u)), (1, .int (nI b))] := hl
  refine lv_iload_n hx hb dX0_lineFor_0 rfl (lv_at hl 0 rfl) ?_
  refine lv_iconst (v := 2) hx hb dX0_lineFor_1 (by decide) ?_
  refine lv_imul hx hb dX0_lineFor_2 ?_
  refine lw_top (y := nI (u * 2)) (pk_mul u 2) ?_
  refine lv_iload_n hx hb dX0_lineFor_3 rfl (lv_at hl 1 rfl) ?_
  refine lv_iconst (v := 2) hx hb dX0_lineFor_4 (by decide) ?_
  refine lv_irem hx hb dX0_lineFor_5 (by decide) ?_
  refine lw_top (y := nI (b % 2)) (pk_rem (a := b) (d := 2) (by omega) (by decide) (by decide)) ?_
  refine lv_iadd hx hb dX0_lineFor_6 ?_
  refine lw_top (y := nI ((u * 2) + (b % 2))) (nI_add (u * 2) (b % 2)) ?_
  refine lw_top (y := nI (2 * u + b % 2)) (congrArg nI (by omega)) ?_
  exact s_ret hx hb hr hlocks hw rfl dX0_lineFor_7
theorem cwx_lineFor {R : Room} {s : State} {args : Array Value} (hts : ∀ w ∈ GT, w.before args s = true) (hR : 0 + 1 ≤ R.frames ∧ 8 + (2 + 11) + 40 * 0 ≤ R.locals) : CallB R s args RX0 90 yX0_lineFor cX0_lineFor 2 (some .int) ((.code yX0_lineFor cX0_lineFor 2 (some .int) : Cond) :: GT) (rmD 0) 0 0 2 ∧ (Cond.static yX0_lineFor).before args s = true :=
  va_cwS 2 hts (show GoodIn GT (va_wsS RX0 90 yX0_lineFor ((.code yX0_lineFor cX0_lineFor 2 (some .int) : Cond) :: GT)) from lw_gin (lw_gin (lw_gin (lw_gin lw_self gw_77) gw_1) gw_76) gw_75) rfl rfl rfl (by decide +kernel) hR
set_option maxRecDepth 100000 in
set_option maxHeartbeats 4000000 in
theorem cx_wordIndex (l : Launch) (u a : Nat) (hu : u < 4) (ha : a < 32) : sM l yX0_wordIndex cX0_wordIndex 2 (some .int) 1 [.int (nI u), .int (nI a)] (nI (2 * (2 * u + a / 2 % 2) + a % 2)) := by
  refine s_met (by decide) rfl (Nat.le_of_ble_eq_true rfl) ?_
  intro P0 e s m below meth c ls hx hb hml hr hlocks hown hts hl hw
  have hl : lv_has ls 2 [(0, .int (nI u)), (1, .int (nI a))] := hl
  refine lv_iload_n hx hb dX0_wordIndex_0 rfl (lv_at hl 0 rfl) ?_
  refine lv_iload_n hx hb dX0_wordIndex_1 rfl (lv_at hl 1 rfl) ?_
  refine s_cs (rest := [.int (nI u)]) ⟨hx, hb, hml, hown, hts⟩ (cx_blockOf l a (by omega)) (cwx_blockOf hts ⟨by decide, by decide⟩) hw rfl hl.1 rfl (Nat.le_of_ble_eq_true rfl) dX0_wordIndex_2 ⟨Nat.zero_le _, Nat.zero_le _⟩ (fun H locs hw => ?_)
  refine s_cs (rest := []) ⟨hx, hb, hml, hown, hts⟩ (cx_lineFor l u (a / 2) (by omega) (by omega)) (cwx_lineFor hts ⟨by decide, by decide⟩) hw rfl hl.1 rfl (Nat.le_of_ble_eq_true rfl) dX0_wordIndex_5 ⟨Nat.zero_le _, Nat.zero_le _⟩ (fun H locs hw => ?_)
  refine lv_iconst (v := 2) hx hb dX0_wordIndex_8 (by decide) ?_
  refine lv_imul hx hb dX0_wordIndex_9 ?_
  refine lw_top (y := nI ((2 * u + (a / 2) % 2) * 2)) (pk_mul (2 * u + (a / 2) % 2) 2) ?_
  refine lv_iload_n hx hb dX0_wordIndex_10 rfl (lv_at hl 1 rfl) ?_
  refine lv_iconst (v := 2) hx hb dX0_wordIndex_11 (by decide) ?_
  refine lv_irem hx hb dX0_wordIndex_12 (by decide) ?_
  refine lw_top (y := nI (a % 2)) (pk_rem (a := a) (d := 2) (by omega) (by decide) (by decide)) ?_
  refine lv_iadd hx hb dX0_wordIndex_13 ?_
  refine lw_top (y := nI (((2 * u + (a / 2) % 2) * 2) + (a % 2))) (nI_add ((2 * u + (a / 2) % 2) * 2) (a % 2)) ?_
  refine lw_top (y := nI (2 * (2 * u + a / 2 % 2) + a % 2)) (congrArg nI (by omega)) ?_
  exact s_ret hx hb hr hlocks hw rfl dX0_wordIndex_14
theorem cwx_wordIndex {R : Room} {s : State} {args : Array Value} (hts : ∀ w ∈ GT, w.before args s = true) (hR : 1 + 1 ≤ R.frames ∧ 8 + (2 + 11) + 40 * 1 ≤ R.locals) : CallB R s args RX0 58 yX0_wordIndex cX0_wordIndex 2 (some .int) ((.code yX0_wordIndex cX0_wordIndex 2 (some .int) : Cond) :: GT) (rmD 1) 0 0 2 ∧ (Cond.static yX0_wordIndex).before args s = true :=
  va_cwS 2 hts (show GoodIn GT (va_wsS RX0 58 yX0_wordIndex ((.code yX0_wordIndex cX0_wordIndex 2 (some .int) : Cond) :: GT)) from lw_gin (lw_gin (lw_gin (lw_gin lw_self gw_90) gw_1) gw_89) gw_88) rfl rfl rfl (by decide +kernel) hR
set_option maxRecDepth 100000 in
set_option maxHeartbeats 4000000 in
theorem cx_protocol (l : Launch) (D : va_G) (o : Nat → Nat) (cA : ClassId) (S : SX)   : xMi l D o cA yX0_protocol cX0_protocol 1 (some .int) 0 [.ref (o 0)] S (S) (S.2 0) := by
  intro sz
  refine x_met (by decide) rfl (Nat.le_of_ble_eq_true rfl) ?_
  intro P0 e s m below meth c ls hsz hx hb hml hr hlocks hown hts hl hw
  subst hsz
  have hl : lv_has ls 1 [(0, .ref (o 0))] := hl
  refine lv_aload_n hx hb dX0_protocol_0 rfl (lv_at hl 0 rfl) ?_
  refine x_f0 hx hb hts hown hw dX0_protocol_1 ?_
  exact x_reti hx hb hr hlocks hw ⟨rfl, rfl⟩ dX0_protocol_4
set_option maxRecDepth 100000 in
set_option maxHeartbeats 4000000 in
theorem cx_hits (l : Launch) (D : va_G) (o : Nat → Nat) (cA : ClassId) (S : SX)   : xMi l D o cA yX0_hits cX0_hits 1 (some .int) 0 [.ref (o 0)] S (S) (S.2 2) := by
  intro sz
  refine x_met (by decide) rfl (Nat.le_of_ble_eq_true rfl) ?_
  intro P0 e s m below meth c ls hsz hx hb hml hr hlocks hown hts hl hw
  subst hsz
  have hl : lv_has ls 1 [(0, .ref (o 0))] := hl
  refine lv_aload_n hx hb dX0_hits_0 rfl (lv_at hl 0 rfl) ?_
  refine x_f2 hx hb hts hown hw dX0_hits_1 ?_
  exact x_reti hx hb hr hlocks hw ⟨rfl, rfl⟩ dX0_hits_4
set_option maxRecDepth 100000 in
set_option maxHeartbeats 4000000 in
theorem cx_misses (l : Launch) (D : va_G) (o : Nat → Nat) (cA : ClassId) (S : SX)   : xMi l D o cA yX0_misses cX0_misses 1 (some .int) 0 [.ref (o 0)] S (S) (S.2 3) := by
  intro sz
  refine x_met (by decide) rfl (Nat.le_of_ble_eq_true rfl) ?_
  intro P0 e s m below meth c ls hsz hx hb hml hr hlocks hown hts hl hw
  subst hsz
  have hl : lv_has ls 1 [(0, .ref (o 0))] := hl
  refine lv_aload_n hx hb dX0_misses_0 rfl (lv_at hl 0 rfl) ?_
  refine x_f3 hx hb hts hown hw dX0_misses_1 ?_
  exact x_reti hx hb hr hlocks hw ⟨rfl, rfl⟩ dX0_misses_4
set_option maxRecDepth 100000 in
set_option maxHeartbeats 4000000 in
theorem cx_updates (l : Launch) (D : va_G) (o : Nat → Nat) (cA : ClassId) (S : SX)   : xMi l D o cA yX0_updates cX0_updates 1 (some .boolean) 0 [.ref (o 0)] S (S) (bI (decide (S.2 0 = 3))) := by
  intro sz
  refine x_met (by decide) rfl (Nat.le_of_ble_eq_true rfl) ?_
  intro P0 e s m below meth c ls hsz hx hb hml hr hlocks hown hts hl hw
  subst hsz
  have hl : lv_has ls 1 [(0, .ref (o 0))] := hl
  refine lv_aload_n hx hb dX0_updates_0 rfl (lv_at hl 0 rfl) ?_
  refine x_f0 hx hb hts hown hw dX0_updates_1 ?_
  refine lv_iconst (v := 3) hx hb dX0_updates_4 (by decide) ?_
  refine lv_icmp_ne (tgt := 12) hx hb dX0_updates_5 (by decide) (fun g1 => ?_) (fun g1 => ?_)
  · refine lv_iconst (v := 0) hx hb dX0_updates_12 (by decide) ?_
    exact x_retz hx hb hr hlocks hw ⟨by simp [bI, g1], rfl⟩ dX0_updates_13
  · refine lv_iconst (v := 1) hx hb dX0_updates_8 (by decide) ?_
    refine lv_goto (tgt := 13) hx hb dX0_updates_9 (by decide) ?_
    exact x_retz hx hb hr hlocks hw ⟨by simp [bI, g1], rfl⟩ dX0_updates_13
theorem cwx_updates {R : Room} {s : State} {args : Array Value} (hts : ∀ w ∈ GT, w.before args s = true) (hR : 0 + 1 ≤ R.frames ∧ 8 + (1 + 11) + 40 * 0 ≤ R.locals) : CallW R s args RX0 RX0 65 yX0_updates cX0_updates 1 (some .boolean) ((.code yX0_updates cX0_updates 1 (some .boolean) : Cond) :: GT) (rmD 0) 0 0 0 :=
  cwV 0 hts (show GoodIn GT (wsV RX0 65 RX0 yX0_updates ((.code yX0_updates cX0_updates 1 (some .boolean) : Cond) :: GT)) from lw_gin (lw_gin (lw_gin (lw_gin (lw_gin lw_self gw_152) gw_1) gw_296) gw_151) gw_150) rfl rfl rfl (by decide +kernel) hR
set_option maxRecDepth 100000 in
set_option maxHeartbeats 4000000 in
theorem cx_holds (l : Launch) (D : va_G) (o : Nat → Nat) (cA : ClassId) (S : SX) (u b : Nat) (hu : u < 4) (hbb : b < 16) : xMi l D o cA yX0_holds cX0_holds 4 (some .boolean) 1 [.ref (o 0), .int (nI u), .int (nI b)] S (S) (bI (xHo S u b)) := by
  intro sz
  refine x_met (by decide) rfl (Nat.le_of_ble_eq_true rfl) ?_
  intro P0 e s m below meth c ls hsz hx hb hml hr hlocks hown hts hl hw
  subst hsz
  have hl : lv_has ls 4 [(0, .ref (o 0)), (1, .int (nI u)), (2, .int (nI b))] := hl
  refine lv_iload_n hx hb dX0_holds_0 rfl (lv_at hl 1 rfl) ?_
  refine lv_iload_n hx hb dX0_holds_1 rfl (lv_at hl 2 rfl) ?_
  refine x_cs (rest := []) ⟨hx, hb, hml, hown, hts⟩ (cx_lineFor l u b (by omega) (by omega)) (cwx_lineFor hts ⟨by decide, by decide⟩) hw rfl hl.1 rfl (Nat.le_of_ble_eq_true rfl) dX0_holds_2 ⟨Nat.zero_le _, Nat.zero_le _⟩ (fun H locs hw => ?_)
  refine lv_istore_n (lv' := [(3, .int (nI (2 * u + b % 2))), (0, .ref (o 0)), (1, .int (nI u)), (2, .int (nI b))]) hx hb dX0_holds_5 rfl hl (by decide) rfl (fun ls hl => ?_)
  refine lv_aload_n hx hb dX0_holds_6 rfl (lv_at hl 1 rfl) ?_
  refine x_g0 hx hb hts hown hw dX0_holds_7 ?_
  refine lv_iload_n hx hb dX0_holds_10 rfl (lv_at hl 0 rfl) ?_
  refine x_l0 (n := 2 * u + b % 2) hx hb hw (by omega) dX0_holds_11 ?_
  refine lv_if_eq (tgt := 29) hx hb dX0_holds_12 (by decide) (fun g1 => ?_) (fun g1 => ?_)
  · refine lv_iconst (v := 0) hx hb dX0_holds_29 (by decide) ?_
    exact x_retz hx hb hr hlocks hw ⟨by simp [bI, xHo, g1], rfl⟩ dX0_holds_30
  · refine lv_aload_n hx hb dX0_holds_15 rfl (lv_at hl 1 rfl) ?_
    refine x_g1 hx hb hts hown hw dX0_holds_16 ?_
    refine lv_iload_n hx hb dX0_holds_19 rfl (lv_at hl 0 rfl) ?_
    refine x_l1 (n := 2 * u + b % 2) hx hb hw (by omega) dX0_holds_20 ?_
    refine lv_iload_n hx hb dX0_holds_21 rfl (lv_at hl 3 rfl) ?_
    refine lv_icmp_ne (tgt := 29) hx hb dX0_holds_22 (by decide) (fun g2 => ?_) (fun g2 => ?_)
    · refine lv_iconst (v := 0) hx hb dX0_holds_29 (by decide) ?_
      exact x_retz hx hb hr hlocks hw ⟨by simp [bI, xHo, g1, g2], rfl⟩ dX0_holds_30
    · refine lv_iconst (v := 1) hx hb dX0_holds_25 (by decide) ?_
      refine lv_goto (tgt := 30) hx hb dX0_holds_26 (by decide) ?_
      exact x_retz hx hb hr hlocks hw ⟨by simp [bI, xHo, g1, g2], rfl⟩ dX0_holds_30
theorem cwx_holds {R : Room} {s : State} {args : Array Value} (hts : ∀ w ∈ GT, w.before args s = true) (hR : 1 + 1 ≤ R.frames ∧ 8 + (4 + 11) + 40 * 1 ≤ R.locals) : CallW R s args RX0 RX0 81 yX0_holds cX0_holds 4 (some .boolean) ((.code yX0_holds cX0_holds 4 (some .boolean) : Cond) :: GT) (rmD 1) 0 0 2 :=
  cwV 2 hts (show GoodIn GT (wsV RX0 81 RX0 yX0_holds ((.code yX0_holds cX0_holds 4 (some .boolean) : Cond) :: GT)) from lw_gin (lw_gin (lw_gin (lw_gin (lw_gin lw_self gw_74) gw_1) gw_288) gw_73) gw_72) rfl rfl rfl (by decide +kernel) hR
set_option maxRecDepth 100000 in
set_option maxHeartbeats 4000000 in
theorem cx_transact (l : Launch) (D : va_G) (o : Nat → Nat) (cA : ClassId) (S : SX) (k u b : Nat) (hk : k < 5) (hu : u < 4) (hbb : b < 16) : xMv l D o cA yX0_transact cX0_transact 5 1 [.ref (o 0), .int (nI k), .int (nI u), .int (nI b)] S (xTr S k u b) := by
  intro sz
  refine x_met (by decide) rfl (Nat.le_of_ble_eq_true rfl) ?_
  intro P0 e s m below meth c ls hsz hx hb hml hr hlocks hown hts hl hw
  subst hsz
  have hl : lv_has ls 5 [(0, .ref (o 0)), (1, .int (nI k)), (2, .int (nI u)), (3, .int (nI b))] := hl
  have loop : ∀ (j : Nat), j < 8 → ∀ (f : Nat → Int32) (H : Heap) (locs : List Loc) (ls : Array Slot), lv_has ls 5 [(4, .int (nI j)), (0, .ref (o 0)), (1, .int (nI k)), (2, .int (nI u)), (3, .int (nI b))] → xW D o cA (xA o s.heap.size) s s.heap (zA S 5 f) H locs → shF j f = shF 7 (S.1 5) → W P0 l e (rmD 1) s m ([.ref (o 0), .int (nI k), .int (nI u), .int (nI b)]).toArray below meth c H locs 0 0 (MQ below (xQv D o cA s.heap.size (xTr S k u b)) ([.ref (o 0), .int (nI k), .int (nI u), .int (nI b)]).toArray s 0 0 (xA o s.heap.size)) (F0 m 4 ls []) := by
    intro j
    induction j with
    | zero =>
      intro hj f H locs ls hl hw hf
      refine lv_iload hx hb dX0_transact_4 (lv_at hl 0 rfl) ?_
      refine lv_if_le (tgt := 31) hx hb dX0_transact_6 (by decide) (fun _ => ?_) (fun h9 => absurd (by decide) h9)
      refine lv_aload_n hx hb dX0_transact_31 rfl (lv_at hl 1 rfl) ?_
      refine x_g5 hx hb hts hown hw dX0_transact_32 ?_
      refine lv_iconst (v := 0) hx hb dX0_transact_35 (by decide) ?_
      refine lv_bipush (v := 64) hx hb dX0_transact_36 (by decide) ?_
      refine lv_iload_n hx hb dX0_transact_38 rfl (lv_at hl 2 rfl) ?_
      refine lv_imul hx hb dX0_transact_39 ?_
      refine lw_top (y := nI (64 * k)) (pk_mul 64 k) ?_
      refine lv_bipush (v := 16) hx hb dX0_transact_40 (by decide) ?_
      refine lv_iload_n hx hb dX0_transact_42 rfl (lv_at hl 3 rfl) ?_
      refine lv_imul hx hb dX0_transact_43 ?_
      refine lw_top (y := nI (16 * u)) (pk_mul 16 u) ?_
      refine lv_iadd hx hb dX0_transact_44 ?_
      refine lw_top (y := nI ((64 * k) + (16 * u))) (nI_add (64 * k) (16 * u)) ?_
      refine lv_iload_n hx hb dX0_transact_45 rfl (lv_at hl 4 rfl) ?_
      refine lv_iadd hx hb dX0_transact_46 ?_
      refine lw_top (y := nI (((64 * k) + (16 * u)) + b)) (nI_add ((64 * k) + (16 * u)) b) ?_
      refine x_s5 (n := 0) (x := nI (((64 * k) + (16 * u)) + b)) hx hb hw (by omega) dX0_transact_47 (fun H locs hw => ?_)
      refine lv_aload_n hx hb dX0_transact_48 rfl (lv_at hl 1 rfl) ?_
      refine x_g4 hx hb hts hown hw dX0_transact_49 ?_
      refine lv_iload_n hx hb dX0_transact_52 rfl (lv_at hl 2 rfl) ?_
      refine lv_dup2_11 hx hb dX0_transact_53 rfl rfl ?_
      refine x_l4 (n := k) hx hb hw (by omega) dX0_transact_54 ?_
      refine lv_iconst (v := 1) hx hb dX0_transact_55 (by decide) ?_
      refine lv_iadd hx hb dX0_transact_56 ?_
      refine x_s4 (n := k) (x := (((zA (zA S 5 f) 5 (upd ((zA S 5 f).1 5) 0 (nI (((64 * k) + (16 * u)) + b)))).1 4 k) + 1)) hx hb hw (by omega) dX0_transact_57 (fun H locs hw => ?_)
      refine lv_aload_n hx hb dX0_transact_58 rfl (lv_at hl 1 rfl) ?_
      refine lv_dup hx hb dX0_transact_59 rfl ?_
      refine x_f1 hx hb hts hown hw dX0_transact_60 ?_
      refine lv_iconst (v := 1) hx hb dX0_transact_63 (by decide) ?_
      refine lv_iadd hx hb dX0_transact_64 ?_
      refine x_p1 (x := (((zA (zA (zA S 5 f) 5 (upd ((zA S 5 f).1 5) 0 (nI (((64 * k) + (16 * u)) + b)))) 4 (upd ((zA (zA S 5 f) 5 (upd ((zA S 5 f).1 5) 0 (nI (((64 * k) + (16 * u)) + b)))).1 4) k (((zA (zA S 5 f) 5 (upd ((zA S 5 f).1 5) 0 (nI (((64 * k) + (16 * u)) + b)))).1 4 k) + 1))).2 1) + 1)) hx hb hts hown hw dX0_transact_65 (fun H locs hw => ?_)
      exact x_retv hx hb hr hlocks hw (by unfold xTr; rw [← show f = shF 7 (S.1 5) from hf, zA_zA, zA_s]; rfl) dX0_transact_68
    | succ j ih =>
      intro hj f H locs ls hl hw hf
      refine lv_iload hx hb dX0_transact_4 (lv_at hl 0 rfl) ?_
      refine lv_if_le (tgt := 31) hx hb dX0_transact_6 (by decide) (fun h9 => absurd h9 (nI_nle (by omega) (by omega))) (fun _ => ?_)
      refine lv_aload_n hx hb dX0_transact_9 rfl (lv_at hl 1 rfl) ?_
      refine x_g5 hx hb hts hown hw dX0_transact_10 ?_
      refine lv_iload hx hb dX0_transact_13 (lv_at hl 0 rfl) ?_
      refine lv_aload_n hx hb dX0_transact_15 rfl (lv_at hl 1 rfl) ?_
      refine x_g5 hx hb hts hown hw dX0_transact_16 ?_
      refine lv_iload hx hb dX0_transact_19 (lv_at hl 0 rfl) ?_
      refine lv_iconst (v := 1) hx hb dX0_transact_21 (by decide) ?_
      refine lv_isub hx hb dX0_transact_22 ?_
      refine lw_top (y := nI ((j + 1) - 1)) (pk_sub (a := (j + 1)) (b := 1) (by omega)) ?_
      refine lw_top (y := nI (j)) (congrArg nI (by omega)) ?_
      refine x_l5 (n := j) hx hb hw (by omega) dX0_transact_23 ?_
      refine x_s5 (n := j + 1) (x := ((zA S 5 f).1 5 j)) hx hb hw (by omega) dX0_transact_24 (fun H locs hw => ?_)
      rw [zA_zA, zA_s] at hw
      refine lv_iinc (k := 0) (v := nI j) (lv' := [(4, .int (nI j)), (0, .ref (o 0)), (1, .int (nI k)), (2, .int (nI u)), (3, .int (nI b))]) hx hb dX0_transact_25 hl rfl (pk_m1 j) (by decide) rfl (fun ls hl => ?_)
      refine lv_goto (tgt := 4) hx hb dX0_transact_28 (by decide) ?_
      exact ih (by omega) _ _ _ _ hl hw hf
  refine lv_bipush (v := 7) hx hb dX0_transact_0 (by decide) ?_
  refine lv_istore (lv' := [(4, .int 7), (0, .ref (o 0)), (1, .int (nI k)), (2, .int (nI u)), (3, .int (nI b))]) hx hb dX0_transact_2 hl (by decide) rfl (fun ls hl => ?_)
  exact loop 7 (by decide) (S.1 5) _ _ _ hl (by rw [zA_id]; exact hw) rfl
theorem cwx_transact {R : Room} {s : State} {args : Array Value} (hts : ∀ w ∈ GT, w.before args s = true) (hR : 1 + 1 ≤ R.frames ∧ 8 + (5 + 11) + 40 * 1 ≤ R.locals) : CallW R s args RX0 RX0 117 yX0_transact cX0_transact 5 none ((.code yX0_transact cX0_transact 5 none : Cond) :: GT) (rmD 1) 0 0 3 :=
  cwV 3 hts (show GoodIn GT (wsV RX0 117 RX0 yX0_transact ((.code yX0_transact cX0_transact 5 none : Cond) :: GT)) from lw_gin (lw_gin (lw_gin (lw_gin (lw_gin lw_self gw_55) gw_1) gw_286) gw_54) gw_53) rfl rfl rfl (by decide +kernel) hR
set_option maxRecDepth 100000 in
set_option maxHeartbeats 4000000 in
theorem cx_copyToMemory (l : Launch) (D : va_G) (o : Nat → Nat) (cA : ClassId) (S : SX) (i b : Nat) (hi : i < 8) (hbb : b < 16) (hB : S.1 1 i = nI b) : xMv l D o cA yX0_copyToMemory cX0_copyToMemory 2 1 [.ref (o 0), .int (nI i)] S (xCp S i) := by
  intro sz
  refine x_met (by decide) rfl (Nat.le_of_ble_eq_true rfl) ?_
  intro P0 e s m below meth c ls hsz hx hb hml hr hlocks hown hts hl hw
  subst hsz
  have hl : lv_has ls 2 [(0, .ref (o 0)), (1, .int (nI i))] := hl
  refine lv_aload_n hx hb dX0_copyToMemory_0 rfl (lv_at hl 0 rfl) ?_
  refine x_g2 hx hb hts hown hw dX0_copyToMemory_1 ?_
  refine lv_iload_n hx hb dX0_copyToMemory_4 rfl (lv_at hl 1 rfl) ?_
  refine lv_iconst (v := 2) hx hb dX0_copyToMemory_5 (by decide) ?_
  refine lv_imul hx hb dX0_copyToMemory_6 ?_
  refine lw_top (y := nI (i * 2)) (pk_mul i 2) ?_
  refine lv_aload_n hx hb dX0_copyToMemory_7 rfl (lv_at hl 0 rfl) ?_
  refine x_g3 hx hb hts hown hw dX0_copyToMemory_8 ?_
  refine lv_aload_n hx hb dX0_copyToMemory_11 rfl (lv_at hl 0 rfl) ?_
  refine x_g1 hx hb hts hown hw dX0_copyToMemory_12 ?_
  refine lv_iload_n hx hb dX0_copyToMemory_15 rfl (lv_at hl 1 rfl) ?_
  refine x_l1 (n := i) hx hb hw (by omega) dX0_copyToMemory_16 ?_
  refine lw_top (y := nI b) hB ?_
  refine lv_iconst (v := 2) hx hb dX0_copyToMemory_17 (by decide) ?_
  refine lv_imul hx hb dX0_copyToMemory_18 ?_
  refine lw_top (y := nI (b * 2)) (pk_mul b 2) ?_
  refine lv_iconst (v := 2) hx hb dX0_copyToMemory_19 (by decide) ?_
  refine x_cp23 (sp := i * 2) (dp := b * 2) (n := 2) (rest := []) hx hb (hml.trans hl.1.symm) hts hown hw (by omega) (by omega) (by decide) (by decide +kernel) dX0_copyToMemory_20 (fun H locs hw => ?_)
  exact x_retv hx hb hr hlocks hw (by unfold xCp; rw [hB, nI_clamp (by omega : b < 2 ^ 31), Nat.mul_comm 2 i, Nat.mul_comm 2 b]) dX0_copyToMemory_23
theorem cwx_copyToMemory {R : Room} {s : State} {args : Array Value} (hts : ∀ w ∈ GT, w.before args s = true) (hR : 1 + 1 ≤ R.frames ∧ 8 + (2 + 11) + 40 * 1 ≤ R.locals) : CallW R s args RX0 RX0 120 yX0_copyToMemory cX0_copyToMemory 2 none ((.code yX0_copyToMemory cX0_copyToMemory 2 none : Cond) :: GT) (rmD 1) 0 0 1 :=
  cwV 1 hts (show GoodIn GT (wsV RX0 120 RX0 yX0_copyToMemory ((.code yX0_copyToMemory cX0_copyToMemory 2 none : Cond) :: GT)) from lw_gin (lw_gin (lw_gin (lw_gin (lw_gin lw_self gw_58) gw_1) gw_287) gw_57) gw_56) rfl rfl rfl (by decide +kernel) hR
set_option maxRecDepth 100000 in
set_option maxHeartbeats 4000000 in
theorem cx_emptyLine (l : Launch) (D : va_G) (o : Nat → Nat) (cA : ClassId) (S : SX) (i b : Nat) (hi : i < 8) (hbb : b < 16) (hB : S.1 1 i = nI b) : xMi l D o cA yX0_emptyLine cX0_emptyLine 3 (some .boolean) 2 [.ref (o 0), .int (nI i)] S (xEm S i) (bI (xDi (S.1 0 i))) := by
  intro sz
  refine x_met (by decide) rfl (Nat.le_of_ble_eq_true rfl) ?_
  intro P0 e s m below meth c ls hsz hx hb hml hr hlocks hown hts hl hw
  subst hsz
  have hl : lv_has ls 3 [(0, .ref (o 0)), (1, .int (nI i))] := hl
  refine lv_aload_n hx hb dX0_emptyLine_0 rfl (lv_at hl 0 rfl) ?_
  refine x_g0 hx hb hts hown hw dX0_emptyLine_1 ?_
  refine lv_iload_n hx hb dX0_emptyLine_4 rfl (lv_at hl 1 rfl) ?_
  refine x_l0 (n := i) hx hb hw (by omega) dX0_emptyLine_5 ?_
  refine x_cs (rest := []) ⟨hx, hb, hml, hown, hts⟩ (cx_isDirty l (S.1 0 i)) (cwx_isDirty hts ⟨by decide, by decide⟩) hw rfl hl.1 rfl (Nat.le_of_ble_eq_true rfl) dX0_emptyLine_6 ⟨Nat.zero_le _, Nat.zero_le _⟩ (fun H locs hw => ?_)
  refine lv_istore_n (lv' := [(2, .int (bI (xDi (S.1 0 i)))), (0, .ref (o 0)), (1, .int (nI i))]) hx hb dX0_emptyLine_9 rfl hl (by decide) rfl (fun ls hl => ?_)
  refine lv_iload_n hx hb dX0_emptyLine_10 rfl (lv_at hl 0 rfl) ?_
  refine lv_if_eq (tgt := 33) hx hb dX0_emptyLine_11 (by decide) (fun g1 => ?_) (fun g1 => ?_)
  · have g1 := bI_z.mp g1
    refine lv_aload_n hx hb dX0_emptyLine_33 rfl (lv_at hl 1 rfl) ?_
    refine x_g0 hx hb hts hown hw dX0_emptyLine_34 ?_
    refine lv_iload_n hx hb dX0_emptyLine_37 rfl (lv_at hl 2 rfl) ?_
    refine lv_iconst (v := 0) hx hb dX0_emptyLine_38 (by decide) ?_
    refine x_s0 (n := i) (x := 0) hx hb hw (by omega) dX0_emptyLine_39 (fun H locs hw => ?_)
    refine lv_iload_n hx hb dX0_emptyLine_40 rfl (lv_at hl 0 rfl) ?_
    exact x_retz hx hb hr hlocks hw ⟨rfl, by simp only [xEm, xEmT, g1, hB, nI_clamp (show b < 2 ^ 31 by omega), if_true, if_false, Bool.false_eq_true, reduceIte]⟩ dX0_emptyLine_41
  · have g1 := bI_n.mp g1
    refine lv_aload_n hx hb dX0_emptyLine_14 rfl (lv_at hl 1 rfl) ?_
    refine lv_iconst (v := 4) hx hb dX0_emptyLine_15 (by decide) ?_
    refine lv_iload_n hx hb dX0_emptyLine_16 rfl (lv_at hl 2 rfl) ?_
    refine lv_iconst (v := 2) hx hb dX0_emptyLine_17 (by decide) ?_
    refine lv_idiv hx hb dX0_emptyLine_18 (by decide) ?_
    refine lw_top (y := nI (i / 2)) (pk_div (a := i) (d := 2) (by omega) (by decide) (by decide)) ?_
    refine lv_aload_n hx hb dX0_emptyLine_19 rfl (lv_at hl 1 rfl) ?_
    refine x_g1 hx hb hts hown hw dX0_emptyLine_20 ?_
    refine lv_iload_n hx hb dX0_emptyLine_23 rfl (lv_at hl 2 rfl) ?_
    refine x_l1 (n := i) hx hb hw (by omega) dX0_emptyLine_24 ?_
    refine lw_top (y := nI b) hB ?_
    refine x_cv (rest := []) ⟨hx, hb, hml, hown, hts⟩ (cx_transact l D o cA S 4 (i / 2) b (by omega) (by omega) (by omega)) (cwx_transact hts ⟨by decide, by decide⟩) hw rfl hl.1 rfl (Nat.le_of_ble_eq_true rfl) dX0_emptyLine_25 ⟨Nat.zero_le _, Nat.zero_le _⟩ (fun H locs hw => ?_)
    refine lv_aload_n hx hb dX0_emptyLine_28 rfl (lv_at hl 1 rfl) ?_
    refine lv_iload_n hx hb dX0_emptyLine_29 rfl (lv_at hl 2 rfl) ?_
    refine x_cv (rest := []) ⟨hx, hb, hml, hown, hts⟩ (cx_copyToMemory l D o cA (xTr S 4 (i / 2) b) i b (by omega) hbb hB) (cwx_copyToMemory hts ⟨by decide, by decide⟩) hw rfl hl.1 rfl (Nat.le_of_ble_eq_true rfl) dX0_emptyLine_30 ⟨Nat.zero_le _, Nat.zero_le _⟩ (fun H locs hw => ?_)
    refine lv_aload_n hx hb dX0_emptyLine_33 rfl (lv_at hl 1 rfl) ?_
    refine x_g0 hx hb hts hown hw dX0_emptyLine_34 ?_
    refine lv_iload_n hx hb dX0_emptyLine_37 rfl (lv_at hl 2 rfl) ?_
    refine lv_iconst (v := 0) hx hb dX0_emptyLine_38 (by decide) ?_
    refine x_s0 (n := i) (x := 0) hx hb hw (by omega) dX0_emptyLine_39 (fun H locs hw => ?_)
    refine lv_iload_n hx hb dX0_emptyLine_40 rfl (lv_at hl 0 rfl) ?_
    exact x_retz hx hb hr hlocks hw ⟨rfl, by simp only [xEm, xEmT, g1, hB, nI_clamp (show b < 2 ^ 31 by omega), if_true, if_false, Bool.false_eq_true, reduceIte]⟩ dX0_emptyLine_41
theorem cwx_emptyLine {R : Room} {s : State} {args : Array Value} (hts : ∀ w ∈ GT, w.before args s = true) (hR : 2 + 1 ≤ R.frames ∧ 8 + (3 + 11) + 40 * 2 ≤ R.locals) : CallW R s args RX0 RX0 93 yX0_emptyLine cX0_emptyLine 3 (some .boolean) ((.code yX0_emptyLine cX0_emptyLine 3 (some .boolean) : Cond) :: GT) (rmD 2) 0 0 1 :=
  cwV 1 hts (show GoodIn GT (wsV RX0 93 RX0 yX0_emptyLine ((.code yX0_emptyLine cX0_emptyLine 3 (some .boolean) : Cond) :: GT)) from lw_gin (lw_gin (lw_gin (lw_gin (lw_gin lw_self gw_49) gw_1) gw_285) gw_48) gw_47) rfl rfl rfl (by decide +kernel) hR
set_option maxRecDepth 100000 in
set_option maxHeartbeats 4000000 in
theorem cx_dirtyLine (l : Launch) (D : va_G) (o : Nat → Nat) (cA : ClassId) (S : SX) (b : Nat) (hbb : b < 16) : xMi l D o cA yX0_dirtyLine cX0_dirtyLine 4 (some .int) 2 [.ref (o 0), .int (nI b)] S (S) (xDl S b) := by
  intro sz
  refine x_met (by decide) rfl (Nat.le_of_ble_eq_true rfl) ?_
  intro P0 e s m below meth c ls hsz hx hb hml hr hlocks hown hts hl hw
  subst hsz
  have hl : lv_has ls 4 [(0, .ref (o 0)), (1, .int (nI b))] := hl
  have loop : ∀ (n k : Nat), n + k = 4 → ∀  (H : Heap) (locs : List Loc) (ls : Array Slot), lv_has ls 4 [(2, .int (nI k)), (0, .ref (o 0)), (1, .int (nI b))] → xW D o cA (xA o s.heap.size) s s.heap S H locs → xDlF S b n k = xDl S b → W P0 l e (rmD 2) s m ([.ref (o 0), .int (nI b)]).toArray below meth c H locs 0 0 (MQ below (xQi D o cA s.heap.size (S) (xDl S b)) ([.ref (o 0), .int (nI b)]).toArray s 0 0 (xA o s.heap.size)) (F0 m 2 ls []) := by
    intro n
    induction n with
    | zero =>
      intro k hk H locs ls hl hw hf
      obtain rfl : k = 4 := by omega
      refine lv_iload_n hx hb dX0_dirtyLine_2 rfl (lv_at hl 0 rfl) ?_
      refine lv_iconst (v := 4) hx hb dX0_dirtyLine_3 (by decide) ?_
      refine lv_icmp_ge (tgt := 42) hx hb dX0_dirtyLine_4 (by decide) (fun _ => ?_) (fun h9 => absurd (by decide) h9)
      refine lv_iconst (v := -1) hx hb dX0_dirtyLine_42 (by decide) ?_
      exact x_reti hx hb hr hlocks hw ⟨by rw [← hf]; rfl, rfl⟩ dX0_dirtyLine_43
    | succ n ih =>
      intro k hk H locs ls hl hw hf
      refine lv_iload_n hx hb dX0_dirtyLine_2 rfl (lv_at hl 0 rfl) ?_
      refine lv_iconst (v := 4) hx hb dX0_dirtyLine_3 (by decide) ?_
      refine lv_icmp_ge (tgt := 42) hx hb dX0_dirtyLine_4 (by decide) (fun h9 => absurd h9 (nI_ge (a := k) (b := 4) (by omega) (by decide))) (fun _ => ?_)
      refine lv_iload_n hx hb dX0_dirtyLine_7 rfl (lv_at hl 0 rfl) ?_
      refine lv_iload_n hx hb dX0_dirtyLine_8 rfl (lv_at hl 2 rfl) ?_
      refine x_cs (rest := []) ⟨hx, hb, hml, hown, hts⟩ (cx_lineFor l k b (by omega) (by omega)) (cwx_lineFor hts ⟨by decide, by decide⟩) hw rfl hl.1 rfl (Nat.le_of_ble_eq_true rfl) dX0_dirtyLine_9 ⟨Nat.zero_le _, Nat.zero_le _⟩ (fun H locs hw => ?_)
      refine lv_istore_n (lv' := [(3, .int (nI (2 * k + b % 2))), (2, .int (nI k)), (0, .ref (o 0)), (1, .int (nI b))]) hx hb dX0_dirtyLine_12 rfl hl (by decide) rfl (fun ls hl => ?_)
      refine lv_aload_n hx hb dX0_dirtyLine_13 rfl (lv_at hl 2 rfl) ?_
      refine lv_iload_n hx hb dX0_dirtyLine_14 rfl (lv_at hl 1 rfl) ?_
      refine lv_iload_n hx hb dX0_dirtyLine_15 rfl (lv_at hl 3 rfl) ?_
      refine x_ci (rest := []) ⟨hx, hb, hml, hown, hts⟩ (cx_holds l D o cA S k b (by omega) (by omega)) (cwx_holds hts ⟨by decide, by decide⟩) hw rfl hl.1 rfl (Nat.le_of_ble_eq_true rfl) dX0_dirtyLine_16 ⟨Nat.zero_le _, Nat.zero_le _⟩ (fun H locs hw => ?_)
      refine lv_if_eq (tgt := 36) hx hb dX0_dirtyLine_19 (by decide) (fun g1 => ?_) (fun g1 => ?_)
      · have g1 := bI_z.mp g1
        refine lv_iinc (k := 1) (v := nI (k + 1)) (lv' := [(2, .int (nI (k + 1))), (3, .int (nI (2 * k + b % 2))), (0, .ref (o 0)), (1, .int (nI b))]) hx hb dX0_dirtyLine_36 hl rfl (lw_inc k 1) (by decide) rfl (fun ls hl => ?_)
        refine lv_goto (tgt := 2) hx hb dX0_dirtyLine_39 (by decide) ?_
        exact ih (k + 1) (by omega) _ _ _ (lv_sub hl [0, 2, 3] rfl) hw (by rw [← hf]; simp [xDlF, g1])
      · have g1 := bI_n.mp g1
        refine lv_aload_n hx hb dX0_dirtyLine_22 rfl (lv_at hl 2 rfl) ?_
        refine x_g0 hx hb hts hown hw dX0_dirtyLine_23 ?_
        refine lv_iload_n hx hb dX0_dirtyLine_26 rfl (lv_at hl 0 rfl) ?_
        refine x_l0 (n := 2 * k + b % 2) hx hb hw (by omega) dX0_dirtyLine_27 ?_
        refine x_cs (rest := []) ⟨hx, hb, hml, hown, hts⟩ (cx_isDirty l (S.1 0 (2 * k + b % 2))) (cwx_isDirty hts ⟨by decide, by decide⟩) hw rfl hl.1 rfl (Nat.le_of_ble_eq_true rfl) dX0_dirtyLine_28 ⟨Nat.zero_le _, Nat.zero_le _⟩ (fun H locs hw => ?_)
        refine lv_if_eq (tgt := 36) hx hb dX0_dirtyLine_31 (by decide) (fun g2 => ?_) (fun g2 => ?_)
        · have g2 := bI_z.mp g2
          refine lv_iinc (k := 1) (v := nI (k + 1)) (lv' := [(2, .int (nI (k + 1))), (3, .int (nI (2 * k + b % 2))), (0, .ref (o 0)), (1, .int (nI b))]) hx hb dX0_dirtyLine_36 hl rfl (lw_inc k 1) (by decide) rfl (fun ls hl => ?_)
          refine lv_goto (tgt := 2) hx hb dX0_dirtyLine_39 (by decide) ?_
          exact ih (k + 1) (by omega) _ _ _ (lv_sub hl [0, 2, 3] rfl) hw (by rw [← hf]; simp [xDlF, g1, g2])
        · have g2 := bI_n.mp g2
          refine lv_iload_n hx hb dX0_dirtyLine_34 rfl (lv_at hl 0 rfl) ?_
          exact x_reti hx hb hr hlocks hw ⟨by rw [← hf]; simp [xDlF, g1, g2], rfl⟩ dX0_dirtyLine_35
  refine lv_iconst (v := 0) hx hb dX0_dirtyLine_0 (by decide) ?_
  refine lv_istore_n (lv' := [(2, .int 0), (0, .ref (o 0)), (1, .int (nI b))]) hx hb dX0_dirtyLine_1 rfl hl (by decide) rfl (fun ls hl => ?_)
  exact loop 4 0 rfl _ _ _ (lv_sub hl [0, 1, 2] rfl) hw rfl
theorem cwx_dirtyLine {R : Room} {s : State} {args : Array Value} (hts : ∀ w ∈ GT, w.before args s = true) (hR : 2 + 1 ≤ R.frames ∧ 8 + (4 + 11) + 40 * 2 ≤ R.locals) : CallW R s args RX0 RX0 135 yX0_dirtyLine cX0_dirtyLine 4 (some .int) ((.code yX0_dirtyLine cX0_dirtyLine 4 (some .int) : Cond) :: GT) (rmD 2) 0 0 1 :=
  cwV 1 hts (show GoodIn GT (wsV RX0 135 RX0 yX0_dirtyLine ((.code yX0_dirtyLine cX0_dirtyLine 4 (some .int) : Cond) :: GT)) from lw_gin (lw_gin (lw_gin (lw_gin (lw_gin lw_self gw_133) gw_1) gw_292) gw_132) gw_131) rfl rfl rfl (by decide +kernel) hR
set_option maxRecDepth 100000 in
set_option maxHeartbeats 4000000 in
theorem cx_dropOthers (l : Launch) (D : va_G) (o : Nat → Nat) (cA : ClassId) (S : SX) (u b : Nat) (hu : u < 4) (hbb : b < 16) : xMv l D o cA yX0_dropOthers cX0_dropOthers 4 2 [.ref (o 0), .int (nI u), .int (nI b)] S (xDrF u b 4 0 S) := by
  intro sz
  refine x_met (by decide) rfl (Nat.le_of_ble_eq_true rfl) ?_
  intro P0 e s m below meth c ls hsz hx hb hml hr hlocks hown hts hl hw
  subst hsz
  have hl : lv_has ls 4 [(0, .ref (o 0)), (1, .int (nI u)), (2, .int (nI b))] := hl
  have loop : ∀ (n k : Nat), n + k = 4 → ∀ (S' : SX) (H : Heap) (locs : List Loc) (ls : Array Slot), lv_has ls 4 [(3, .int (nI k)), (0, .ref (o 0)), (1, .int (nI u)), (2, .int (nI b))] → xW D o cA (xA o s.heap.size) s s.heap S' H locs → xDrF u b n k S' = xDrF u b 4 0 S → W P0 l e (rmD 2) s m ([.ref (o 0), .int (nI u), .int (nI b)]).toArray below meth c H locs 0 0 (MQ below (xQv D o cA s.heap.size (xDrF u b 4 0 S)) ([.ref (o 0), .int (nI u), .int (nI b)]).toArray s 0 0 (xA o s.heap.size)) (F0 m 2 ls []) := by
    intro n
    induction n with
    | zero =>
      intro k hk S' H locs ls hl hw hf
      obtain rfl : k = 4 := by omega
      refine lv_iload_n hx hb dX0_dropOthers_2 rfl (lv_at hl 0 rfl) ?_
      refine lv_iconst (v := 4) hx hb dX0_dropOthers_3 (by decide) ?_
      refine lv_icmp_ge (tgt := 38) hx hb dX0_dropOthers_4 (by decide) (fun _ => ?_) (fun h9 => absurd (by decide) h9)
      exact x_retv hx hb hr hlocks hw (by rw [← hf]; rfl) dX0_dropOthers_38
    | succ n ih =>
      intro k hk S' H locs ls hl hw hf
      refine lv_iload_n hx hb dX0_dropOthers_2 rfl (lv_at hl 0 rfl) ?_
      refine lv_iconst (v := 4) hx hb dX0_dropOthers_3 (by decide) ?_
      refine lv_icmp_ge (tgt := 38) hx hb dX0_dropOthers_4 (by decide) (fun h9 => absurd h9 (nI_ge (a := k) (b := 4) (by omega) (by decide))) (fun _ => ?_)
      refine lv_iload_n hx hb dX0_dropOthers_7 rfl (lv_at hl 0 rfl) ?_
      refine lv_iload_n hx hb dX0_dropOthers_8 rfl (lv_at hl 2 rfl) ?_
      refine lv_icmp_eq (tgt := 32) hx hb dX0_dropOthers_9 (by decide) (fun g1 => ?_) (fun g1 => ?_)
      · have g1 : k = u := (nI_eq (a := k) (b := u) (by omega) (by omega)).mp g1
        refine lv_iinc (k := 0) (v := nI (k + 1)) (lv' := [(3, .int (nI (k + 1))), (0, .ref (o 0)), (1, .int (nI u)), (2, .int (nI b))]) hx hb dX0_dropOthers_32 hl rfl (lw_inc k 1) (by decide) rfl (fun ls hl => ?_)
        refine lv_goto (tgt := 2) hx hb dX0_dropOthers_35 (by decide) ?_
        exact ih (k + 1) (by omega) _ _ _ _ (lv_sub hl [0, 1, 2, 3] rfl) hw (by rw [← hf]; simp [xDrF, xDr1, g1])
      · have g1 : ¬ k = u := fun h9 => g1 ((nI_eq (a := k) (b := u) (by omega) (by omega)).mpr h9)
        refine lv_aload_n hx hb dX0_dropOthers_12 rfl (lv_at hl 1 rfl) ?_
        refine lv_iload_n hx hb dX0_dropOthers_13 rfl (lv_at hl 0 rfl) ?_
        refine lv_iload_n hx hb dX0_dropOthers_14 rfl (lv_at hl 3 rfl) ?_
        refine x_ci (rest := []) ⟨hx, hb, hml, hown, hts⟩ (cx_holds l D o cA S' k b (by omega) (by omega)) (cwx_holds hts ⟨by decide, by decide⟩) hw rfl hl.1 rfl (Nat.le_of_ble_eq_true rfl) dX0_dropOthers_15 ⟨Nat.zero_le _, Nat.zero_le _⟩ (fun H locs hw => ?_)
        refine lv_if_eq (tgt := 32) hx hb dX0_dropOthers_18 (by decide) (fun g2 => ?_) (fun g2 => ?_)
        · have g2 := bI_z.mp g2
          refine lv_iinc (k := 0) (v := nI (k + 1)) (lv' := [(3, .int (nI (k + 1))), (0, .ref (o 0)), (1, .int (nI u)), (2, .int (nI b))]) hx hb dX0_dropOthers_32 hl rfl (lw_inc k 1) (by decide) rfl (fun ls hl => ?_)
          refine lv_goto (tgt := 2) hx hb dX0_dropOthers_35 (by decide) ?_
          exact ih (k + 1) (by omega) _ _ _ _ (lv_sub hl [0, 1, 2, 3] rfl) hw (by rw [← hf]; simp [xDrF, xDr1, g1, g2])
        · have g2 := bI_n.mp g2
          refine lv_aload_n hx hb dX0_dropOthers_21 rfl (lv_at hl 1 rfl) ?_
          refine x_g0 hx hb hts hown hw dX0_dropOthers_22 ?_
          refine lv_iload_n hx hb dX0_dropOthers_25 rfl (lv_at hl 0 rfl) ?_
          refine lv_iload_n hx hb dX0_dropOthers_26 rfl (lv_at hl 3 rfl) ?_
          refine x_cs (rest := [.ref (o 1)]) ⟨hx, hb, hml, hown, hts⟩ (cx_lineFor l k b (by omega) (by omega)) (cwx_lineFor hts ⟨by decide, by decide⟩) hw rfl hl.1 rfl (Nat.le_of_ble_eq_true rfl) dX0_dropOthers_27 ⟨Nat.zero_le _, Nat.zero_le _⟩ (fun H locs hw => ?_)
          refine lv_iconst (v := 0) hx hb dX0_dropOthers_30 (by decide) ?_
          refine x_s0 (n := 2 * k + b % 2) (x := 0) hx hb hw (by omega) dX0_dropOthers_31 (fun H locs hw => ?_)
          refine lv_iinc (k := 0) (v := nI (k + 1)) (lv' := [(3, .int (nI (k + 1))), (0, .ref (o 0)), (1, .int (nI u)), (2, .int (nI b))]) hx hb dX0_dropOthers_32 hl rfl (lw_inc k 1) (by decide) rfl (fun ls hl => ?_)
          refine lv_goto (tgt := 2) hx hb dX0_dropOthers_35 (by decide) ?_
          exact ih (k + 1) (by omega) _ _ _ _ (lv_sub hl [0, 1, 2, 3] rfl) hw (by rw [← hf]; simp [xDrF, xDr1, g1, g2])
  refine lv_iconst (v := 0) hx hb dX0_dropOthers_0 (by decide) ?_
  refine lv_istore_n (lv' := [(3, .int 0), (0, .ref (o 0)), (1, .int (nI u)), (2, .int (nI b))]) hx hb dX0_dropOthers_1 rfl hl (by decide) rfl (fun ls hl => ?_)
  exact loop 4 0 rfl _ _ _ _ (lv_sub hl [0, 1, 2, 3] rfl) hw rfl
theorem cwx_dropOthers {R : Room} {s : State} {args : Array Value} (hts : ∀ w ∈ GT, w.before args s = true) (hR : 2 + 1 ≤ R.frames ∧ 8 + (4 + 11) + 40 * 2 ≤ R.locals) : CallW R s args RX0 RX0 129 yX0_dropOthers cX0_dropOthers 4 none ((.code yX0_dropOthers cX0_dropOthers 4 none : Cond) :: GT) (rmD 2) 0 0 2 :=
  cwV 2 hts (show GoodIn GT (wsV RX0 129 RX0 yX0_dropOthers ((.code yX0_dropOthers cX0_dropOthers 4 none : Cond) :: GT)) from lw_gin (lw_gin (lw_gin (lw_gin (lw_gin lw_self gw_136) gw_1) gw_293) gw_135) gw_134) rfl rfl rfl (by decide +kernel) hR
set_option maxRecDepth 100000 in
set_option maxHeartbeats 4000000 in
theorem cx_yieldToReader (l : Launch) (D : va_G) (o : Nat → Nat) (cA : ClassId) (S : SX) (i b : Nat) (hi : i < 8) (hbb : b < 16) (hB : S.1 1 i = nI b) : xMv l D o cA yX0_yieldToReader cX0_yieldToReader 3 2 [.ref (o 0), .int (nI i)] S (xYi S i) := by
  intro sz
  refine x_met (by decide) rfl (Nat.le_of_ble_eq_true rfl) ?_
  intro P0 e s m below meth c ls hsz hx hb hml hr hlocks hown hts hl hw
  subst hsz
  have hl : lv_has ls 3 [(0, .ref (o 0)), (1, .int (nI i))] := hl
  refine lv_aload_n hx hb dX0_yieldToReader_0 rfl (lv_at hl 0 rfl) ?_
  refine x_g0 hx hb hts hown hw dX0_yieldToReader_1 ?_
  refine lv_iload_n hx hb dX0_yieldToReader_4 rfl (lv_at hl 1 rfl) ?_
  refine x_l0 (n := i) hx hb hw (by omega) dX0_yieldToReader_5 ?_
  refine x_cs (rest := []) ⟨hx, hb, hml, hown, hts⟩ (cx_isDirty l (S.1 0 i)) (cwx_isDirty hts ⟨by decide, by decide⟩) hw rfl hl.1 rfl (Nat.le_of_ble_eq_true rfl) dX0_yieldToReader_6 ⟨Nat.zero_le _, Nat.zero_le _⟩ (fun H locs hw => ?_)
  refine lv_istore_n (lv' := [(2, .int (bI (xDi (S.1 0 i)))), (0, .ref (o 0)), (1, .int (nI i))]) hx hb dX0_yieldToReader_9 rfl hl (by decide) rfl (fun ls hl => ?_)
  refine lv_iload_n hx hb dX0_yieldToReader_10 rfl (lv_at hl 0 rfl) ?_
  refine lv_if_eq (tgt := 30) hx hb dX0_yieldToReader_11 (by decide) (fun g1 => ?_) (fun g1 => ?_)
  · have g1 := bI_z.mp g1
    refine lv_iload_n hx hb dX0_yieldToReader_30 rfl (lv_at hl 0 rfl) ?_
    refine lv_if_eq (tgt := 39) hx hb dX0_yieldToReader_31 (by decide) (fun _ => ?_) (fun h9 => absurd (bI_z.mpr g1) h9)
    refine lv_aload_n hx hb dX0_yieldToReader_39 rfl (lv_at hl 1 rfl) ?_
    refine x_g0 hx hb hts hown hw dX0_yieldToReader_40 ?_
    refine lv_iload_n hx hb dX0_yieldToReader_43 rfl (lv_at hl 2 rfl) ?_
    refine lv_iconst (v := 1) hx hb dX0_yieldToReader_44 (by decide) ?_
    refine x_s0 (n := i) (x := 1) hx hb hw (by omega) dX0_yieldToReader_45 (fun H locs hw => ?_)
    exact x_retv hx hb hr hlocks hw (by simp [xYi, g1]) dX0_yieldToReader_46
  · have g1 := bI_n.mp g1
    refine lv_aload_n hx hb dX0_yieldToReader_14 rfl (lv_at hl 1 rfl) ?_
    refine x_f0 hx hb hts hown hw dX0_yieldToReader_15 ?_
    refine lv_iconst (v := 2) hx hb dX0_yieldToReader_18 (by decide) ?_
    refine lv_icmp_lt (tgt := 30) hx hb dX0_yieldToReader_19 (by decide) (fun g2 => ?_) (fun g2 => ?_)
    · refine lv_iload_n hx hb dX0_yieldToReader_30 rfl (lv_at hl 0 rfl) ?_
      refine lv_if_eq (tgt := 39) hx hb dX0_yieldToReader_31 (by decide) (fun h9 => absurd h9 (bI_n.mpr g1)) (fun _ => ?_)
      refine lv_aload_n hx hb dX0_yieldToReader_34 rfl (lv_at hl 1 rfl) ?_
      refine lv_iload_n hx hb dX0_yieldToReader_35 rfl (lv_at hl 2 rfl) ?_
      refine x_cv (rest := []) ⟨hx, hb, hml, hown, hts⟩ (cx_copyToMemory l D o cA S i b (by omega) hbb hB) (cwx_copyToMemory hts ⟨by decide, by decide⟩) hw rfl hl.1 rfl (Nat.le_of_ble_eq_true rfl) dX0_yieldToReader_36 ⟨Nat.zero_le _, Nat.zero_le _⟩ (fun H locs hw => ?_)
      refine lv_aload_n hx hb dX0_yieldToReader_39 rfl (lv_at hl 1 rfl) ?_
      refine x_g0 hx hb hts hown hw dX0_yieldToReader_40 ?_
      refine lv_iload_n hx hb dX0_yieldToReader_43 rfl (lv_at hl 2 rfl) ?_
      refine lv_iconst (v := 1) hx hb dX0_yieldToReader_44 (by decide) ?_
      refine x_s0 (n := i) (x := 1) hx hb hw (by omega) dX0_yieldToReader_45 (fun H locs hw => ?_)
      exact x_retv hx hb hr hlocks hw (by simp [xYi, g1, g2]) dX0_yieldToReader_46
    · refine lv_aload_n hx hb dX0_yieldToReader_22 rfl (lv_at hl 1 rfl) ?_
      refine x_g0 hx hb hts hown hw dX0_yieldToReader_23 ?_
      refine lv_iload_n hx hb dX0_yieldToReader_26 rfl (lv_at hl 2 rfl) ?_
      refine lv_iconst (v := 3) hx hb dX0_yieldToReader_27 (by decide) ?_
      refine x_s0 (n := i) (x := 3) hx hb hw (by omega) dX0_yieldToReader_28 (fun H locs hw => ?_)
      exact x_retv hx hb hr hlocks hw (by simp [xYi, g1, g2]) dX0_yieldToReader_29
theorem cwx_yieldToReader {R : Room} {s : State} {args : Array Value} (hts : ∀ w ∈ GT, w.before args s = true) (hR : 2 + 1 ≤ R.frames ∧ 8 + (3 + 11) + 40 * 2 ≤ R.locals) : CallW R s args RX0 RX0 138 yX0_yieldToReader cX0_yieldToReader 3 none ((.code yX0_yieldToReader cX0_yieldToReader 3 none : Cond) :: GT) (rmD 2) 0 0 1 :=
  cwV 1 hts (show GoodIn GT (wsV RX0 138 RX0 yX0_yieldToReader ((.code yX0_yieldToReader cX0_yieldToReader 3 none : Cond) :: GT)) from lw_gin (lw_gin (lw_gin (lw_gin (lw_gin lw_self gw_142) gw_1) gw_295) gw_141) gw_140) rfl rfl rfl (by decide +kernel) hR
set_option maxRecDepth 100000 in
set_option maxHeartbeats 4000000 in
theorem cx_shareWithOthers (l : Launch) (D : va_G) (o : Nat → Nat) (cA : ClassId) (S : SX) (u b : Nat) (hu : u < 4) (hbb : b < 16) (hok : okB S) : xMi l D o cA yX0_shareWithOthers cX0_shareWithOthers 5 (some .int) 3 [.ref (o 0), .int (nI u), .int (nI b)] S ((xSh S u b).1) ((xSh S u b).2) := by
  intro sz
  refine x_met (by decide) rfl (Nat.le_of_ble_eq_true rfl) ?_
  intro P0 e s m below meth c ls hsz hx hb hml hr hlocks hown hts hl hw
  subst hsz
  have hl : lv_has ls 5 [(0, .ref (o 0)), (1, .int (nI u)), (2, .int (nI b))] := hl
  have loop : ∀ (n k : Nat), n + k = 4 → ∀ (S' : SX) (al : Bool) (H : Heap) (locs : List Loc) (ls : Array Slot), lv_has ls 5 [(4, .int (nI k)), (3, .int (bI al)), (0, .ref (o 0)), (1, .int (nI u)), (2, .int (nI b))] → xW D o cA (xA o s.heap.size) s s.heap S' H locs → okB S' → xShF u b n k (S', al) = xShF u b 4 0 (S, true) → W P0 l e (rmD 3) s m ([.ref (o 0), .int (nI u), .int (nI b)]).toArray below meth c H locs 0 0 (MQ below (xQi D o cA s.heap.size ((xSh S u b).1) ((xSh S u b).2)) ([.ref (o 0), .int (nI u), .int (nI b)]).toArray s 0 0 (xA o s.heap.size)) (F0 m 5 ls []) := by
    intro n
    induction n with
    | zero =>
      intro k hk S' al H locs ls hl hw hok hf
      obtain rfl : k = 4 := by omega
      refine lv_iload hx hb dX0_shareWithOthers_5 (lv_at hl 0 rfl) ?_
      refine lv_iconst (v := 4) hx hb dX0_shareWithOthers_7 (by decide) ?_
      refine lv_icmp_ge (tgt := 45) hx hb dX0_shareWithOthers_8 (by decide) (fun _ => ?_) (fun h9 => absurd (by decide) h9)
      refine lv_iload_n hx hb dX0_shareWithOthers_45 rfl (lv_at hl 1 rfl) ?_
      refine lv_if_eq (tgt := 60) hx hb dX0_shareWithOthers_46 (by decide) (fun g1 => ?_) (fun g1 => ?_)
      · have g1 := bI_z.mp g1
        refine lv_iconst (v := 1) hx hb dX0_shareWithOthers_60 (by decide) ?_
        exact x_reti hx hb hr hlocks hw ⟨by simp [xSh, ← show (S', al) = xShF u b 4 0 (S, true) from hf, g1], by simp [xSh, ← show (S', al) = xShF u b 4 0 (S, true) from hf]⟩ dX0_shareWithOthers_61
      · have g1 := bI_n.mp g1
        refine lv_aload_n hx hb dX0_shareWithOthers_49 rfl (lv_at hl 2 rfl) ?_
        refine x_f0 hx hb hts hown hw dX0_shareWithOthers_50 ?_
        refine lv_if_eq (tgt := 60) hx hb dX0_shareWithOthers_53 (by decide) (fun g2 => ?_) (fun g2 => ?_)
        · refine lv_iconst (v := 1) hx hb dX0_shareWithOthers_60 (by decide) ?_
          exact x_reti hx hb hr hlocks hw ⟨by simp [xSh, ← show (S', al) = xShF u b 4 0 (S, true) from hf, g1, g2], by simp [xSh, ← show (S', al) = xShF u b 4 0 (S, true) from hf]⟩ dX0_shareWithOthers_61
        · refine lv_iconst (v := 2) hx hb dX0_shareWithOthers_56 (by decide) ?_
          refine lv_goto (tgt := 61) hx hb dX0_shareWithOthers_57 (by decide) ?_
          exact x_reti hx hb hr hlocks hw ⟨by simp [xSh, ← show (S', al) = xShF u b 4 0 (S, true) from hf, g1, g2], by simp [xSh, ← show (S', al) = xShF u b 4 0 (S, true) from hf]⟩ dX0_shareWithOthers_61
    | succ n ih =>
      intro k hk S' al H locs ls hl hw hok hf
      refine lv_iload hx hb dX0_shareWithOthers_5 (lv_at hl 0 rfl) ?_
      refine lv_iconst (v := 4) hx hb dX0_shareWithOthers_7 (by decide) ?_
      refine lv_icmp_ge (tgt := 45) hx hb dX0_shareWithOthers_8 (by decide) (fun h9 => absurd h9 (nI_ge (a := k) (b := 4) (by omega) (by decide))) (fun _ => ?_)
      refine lv_iload hx hb dX0_shareWithOthers_11 (lv_at hl 0 rfl) ?_
      refine lv_iload_n hx hb dX0_shareWithOthers_13 rfl (lv_at hl 3 rfl) ?_
      refine lv_icmp_eq (tgt := 39) hx hb dX0_shareWithOthers_14 (by decide) (fun g3 => ?_) (fun g3 => ?_)
      · have g3 : k = u := (nI_eq (a := k) (b := u) (by omega) (by omega)).mp g3
        refine lv_iinc (k := 0) (v := nI (k + 1)) (lv' := [(4, .int (nI (k + 1))), (3, .int (bI al)), (0, .ref (o 0)), (1, .int (nI u)), (2, .int (nI b))]) hx hb dX0_shareWithOthers_39 hl rfl (lw_inc k 1) (by decide) rfl (fun ls hl => ?_)
        refine lv_goto (tgt := 5) hx hb dX0_shareWithOthers_42 (by decide) ?_
        exact ih (k + 1) (by omega) _ al _ _ _ (lv_sub hl [0, 1, 2, 3, 4] rfl) hw hok (by rw [← hf]; simp [xShF, xSh1, g3])
      · have g3 : ¬ k = u := fun h9 => g3 ((nI_eq (a := k) (b := u) (by omega) (by omega)).mpr h9)
        refine lv_aload_n hx hb dX0_shareWithOthers_17 rfl (lv_at hl 2 rfl) ?_
        refine lv_iload hx hb dX0_shareWithOthers_18 (lv_at hl 0 rfl) ?_
        refine lv_iload_n hx hb dX0_shareWithOthers_20 rfl (lv_at hl 4 rfl) ?_
        refine x_ci (rest := []) ⟨hx, hb, hml, hown, hts⟩ (cx_holds l D o cA S' k b (by omega) (by omega)) (cwx_holds hts ⟨by decide, by decide⟩) hw rfl hl.1 rfl (Nat.le_of_ble_eq_true rfl) dX0_shareWithOthers_21 ⟨Nat.zero_le _, Nat.zero_le _⟩ (fun H locs hw => ?_)
        refine lv_if_eq (tgt := 39) hx hb dX0_shareWithOthers_24 (by decide) (fun g4 => ?_) (fun g4 => ?_)
        · have g4 := bI_z.mp g4
          refine lv_iinc (k := 0) (v := nI (k + 1)) (lv' := [(4, .int (nI (k + 1))), (3, .int (bI al)), (0, .ref (o 0)), (1, .int (nI u)), (2, .int (nI b))]) hx hb dX0_shareWithOthers_39 hl rfl (lw_inc k 1) (by decide) rfl (fun ls hl => ?_)
          refine lv_goto (tgt := 5) hx hb dX0_shareWithOthers_42 (by decide) ?_
          exact ih (k + 1) (by omega) _ al _ _ _ (lv_sub hl [0, 1, 2, 3, 4] rfl) hw hok (by rw [← hf]; simp [xShF, xSh1, g3, g4])
        · have g4 := bI_n.mp g4
          refine lv_iconst (v := 0) hx hb dX0_shareWithOthers_27 (by decide) ?_
          refine lv_istore_n (lv' := [(3, .int 0), (4, .int (nI k)), (0, .ref (o 0)), (1, .int (nI u)), (2, .int (nI b))]) hx hb dX0_shareWithOthers_28 rfl hl (by decide) rfl (fun ls hl => ?_)
          refine lv_aload_n hx hb dX0_shareWithOthers_29 rfl (lv_at hl 2 rfl) ?_
          refine lv_iload hx hb dX0_shareWithOthers_30 (lv_at hl 1 rfl) ?_
          refine lv_iload_n hx hb dX0_shareWithOthers_32 rfl (lv_at hl 4 rfl) ?_
          refine x_cs (rest := [.ref (o 0)]) ⟨hx, hb, hml, hown, hts⟩ (cx_lineFor l k b (by omega) (by omega)) (cwx_lineFor hts ⟨by decide, by decide⟩) hw rfl hl.1 rfl (Nat.le_of_ble_eq_true rfl) dX0_shareWithOthers_33 ⟨Nat.zero_le _, Nat.zero_le _⟩ (fun H locs hw => ?_)
          obtain ⟨c9, hc9, hB9⟩ := hok (2 * k + b % 2) (by omega)
          refine x_cv (rest := []) ⟨hx, hb, hml, hown, hts⟩ (cx_yieldToReader l D o cA S' (2 * k + b % 2) c9 (by omega) hc9 hB9) (cwx_yieldToReader hts ⟨by decide, by decide⟩) hw rfl hl.1 rfl (Nat.le_of_ble_eq_true rfl) dX0_shareWithOthers_36 ⟨Nat.zero_le _, Nat.zero_le _⟩ (fun H locs hw => ?_)
          refine lv_iinc (k := 1) (v := nI (k + 1)) (lv' := [(4, .int (nI (k + 1))), (3, .int 0), (0, .ref (o 0)), (1, .int (nI u)), (2, .int (nI b))]) hx hb dX0_shareWithOthers_39 hl rfl (lw_inc k 1) (by decide) rfl (fun ls hl => ?_)
          refine lv_goto (tgt := 5) hx hb dX0_shareWithOthers_42 (by decide) ?_
          exact ih (k + 1) (by omega) _ false _ _ _ (lv_sub hl [0, 1, 2, 3, 4] rfl) hw (fun i hi => by rw [xYi_1]; exact hok i hi) (by rw [← hf]; simp [xShF, xSh1, g3, g4])
  refine lv_iconst (v := 1) hx hb dX0_shareWithOthers_0 (by decide) ?_
  refine lv_istore_n (lv' := [(3, .int 1), (0, .ref (o 0)), (1, .int (nI u)), (2, .int (nI b))]) hx hb dX0_shareWithOthers_1 rfl hl (by decide) rfl (fun ls hl => ?_)
  refine lv_iconst (v := 0) hx hb dX0_shareWithOthers_2 (by decide) ?_
  refine lv_istore (lv' := [(4, .int 0), (3, .int 1), (0, .ref (o 0)), (1, .int (nI u)), (2, .int (nI b))]) hx hb dX0_shareWithOthers_3 hl (by decide) rfl (fun ls hl => ?_)
  exact loop 4 0 rfl _ true _ _ _ (lv_sub hl [0, 1, 2, 3, 4] rfl) hw hok rfl
theorem cwx_shareWithOthers {R : Room} {s : State} {args : Array Value} (hts : ∀ w ∈ GT, w.before args s = true) (hR : 3 + 1 ≤ R.frames ∧ 8 + (5 + 11) + 40 * 3 ≤ R.locals) : CallW R s args RX0 RX0 132 yX0_shareWithOthers cX0_shareWithOthers 5 (some .int) ((.code yX0_shareWithOthers cX0_shareWithOthers 5 (some .int) : Cond) :: GT) (rmD 3) 0 0 2 :=
  cwV 2 hts (show GoodIn GT (wsV RX0 132 RX0 yX0_shareWithOthers ((.code yX0_shareWithOthers cX0_shareWithOthers 5 (some .int) : Cond) :: GT)) from lw_gin (lw_gin (lw_gin (lw_gin (lw_gin lw_self gw_139) gw_1) gw_294) gw_138) gw_137) rfl rfl rfl (by decide +kernel) hR
set_option maxRecDepth 100000 in
set_option maxHeartbeats 4000000 in
theorem cx_fetchWords (l : Launch) (D : va_G) (o : Nat → Nat) (cA : ClassId) (S : SX) (i b : Nat) (hi : i < 8) (hbb : b < 16) : xMv l D o cA yX0_fetchWords cX0_fetchWords 4 3 [.ref (o 0), .int (nI i), .int (nI b)] S (xFe S i b) := by
  intro sz
  refine x_met (by decide) rfl (Nat.le_of_ble_eq_true rfl) ?_
  intro P0 e s m below meth c ls hsz hx hb hml hr hlocks hown hts hl hw
  subst hsz
  have hl : lv_has ls 4 [(0, .ref (o 0)), (1, .int (nI i)), (2, .int (nI b))] := hl
  refine lv_aload_n hx hb dX0_fetchWords_0 rfl (lv_at hl 0 rfl) ?_
  refine lv_iload_n hx hb dX0_fetchWords_1 rfl (lv_at hl 2 rfl) ?_
  refine x_ci (rest := []) ⟨hx, hb, hml, hown, hts⟩ (cx_dirtyLine l D o cA S b (by omega)) (cwx_dirtyLine hts ⟨by decide, by decide⟩) hw rfl hl.1 rfl (Nat.le_of_ble_eq_true rfl) dX0_fetchWords_2 ⟨Nat.zero_le _, Nat.zero_le _⟩ (fun H locs hw => ?_)
  refine lv_istore_n (lv' := [(3, .int (xDl S b)), (0, .ref (o 0)), (1, .int (nI i)), (2, .int (nI b))]) hx hb dX0_fetchWords_5 rfl hl (by decide) rfl (fun ls hl => ?_)
  refine lv_iload_n hx hb dX0_fetchWords_6 rfl (lv_at hl 0 rfl) ?_
  refine lv_iconst (v := -1) hx hb dX0_fetchWords_7 (by decide) ?_
  refine lv_icmp_ne (tgt := 32) hx hb dX0_fetchWords_8 (by decide) (fun g1 => ?_) (fun g1 => ?_)
  · obtain ⟨c9, hc9, e9⟩ := xDl_nat hbb g1
    refine lv_aload_n hx hb dX0_fetchWords_32 rfl (lv_at hl 1 rfl) ?_
    refine x_g2 hx hb hts hown hw dX0_fetchWords_33 ?_
    refine lv_iload_n hx hb dX0_fetchWords_36 rfl (lv_at hl 0 rfl) ?_
    refine lw_top (y := nI c9) e9 ?_
    refine lv_iconst (v := 2) hx hb dX0_fetchWords_37 (by decide) ?_
    refine lv_imul hx hb dX0_fetchWords_38 ?_
    refine lw_top (y := nI (c9 * 2)) (pk_mul c9 2) ?_
    refine lv_aload_n hx hb dX0_fetchWords_39 rfl (lv_at hl 1 rfl) ?_
    refine x_g2 hx hb hts hown hw dX0_fetchWords_40 ?_
    refine lv_iload_n hx hb dX0_fetchWords_43 rfl (lv_at hl 2 rfl) ?_
    refine lv_iconst (v := 2) hx hb dX0_fetchWords_44 (by decide) ?_
    refine lv_imul hx hb dX0_fetchWords_45 ?_
    refine lw_top (y := nI (i * 2)) (pk_mul i 2) ?_
    refine lv_iconst (v := 2) hx hb dX0_fetchWords_46 (by decide) ?_
    refine x_cp22 (sp := c9 * 2) (dp := i * 2) (n := 2) (rest := []) hx hb (hml.trans hl.1.symm) hts hown hw (by omega) (by omega) (by decide) (by decide +kernel) dX0_fetchWords_47 (fun H locs hw => ?_)
    exact x_retv hx hb hr hlocks hw (by unfold xFe; rw [if_neg g1, e9, nI_clamp (show c9 < 2 ^ 31 by omega), Nat.mul_comm 2 c9, Nat.mul_comm 2 i]) dX0_fetchWords_50
  · refine lv_aload_n hx hb dX0_fetchWords_11 rfl (lv_at hl 1 rfl) ?_
    refine x_g3 hx hb hts hown hw dX0_fetchWords_12 ?_
    refine lv_iload_n hx hb dX0_fetchWords_15 rfl (lv_at hl 3 rfl) ?_
    refine lv_iconst (v := 2) hx hb dX0_fetchWords_16 (by decide) ?_
    refine lv_imul hx hb dX0_fetchWords_17 ?_
    refine lw_top (y := nI (b * 2)) (pk_mul b 2) ?_
    refine lv_aload_n hx hb dX0_fetchWords_18 rfl (lv_at hl 1 rfl) ?_
    refine x_g2 hx hb hts hown hw dX0_fetchWords_19 ?_
    refine lv_iload_n hx hb dX0_fetchWords_22 rfl (lv_at hl 2 rfl) ?_
    refine lv_iconst (v := 2) hx hb dX0_fetchWords_23 (by decide) ?_
    refine lv_imul hx hb dX0_fetchWords_24 ?_
    refine lw_top (y := nI (i * 2)) (pk_mul i 2) ?_
    refine lv_iconst (v := 2) hx hb dX0_fetchWords_25 (by decide) ?_
    refine x_cp32 (sp := b * 2) (dp := i * 2) (n := 2) (rest := []) hx hb (hml.trans hl.1.symm) hts hown hw (by omega) (by omega) (by decide) (by decide +kernel) dX0_fetchWords_26 (fun H locs hw => ?_)
    refine lv_goto (tgt := 50) hx hb dX0_fetchWords_29 (by decide) ?_
    exact x_retv hx hb hr hlocks hw (by unfold xFe; rw [if_pos g1, Nat.mul_comm 2 b, Nat.mul_comm 2 i]) dX0_fetchWords_50
theorem cwx_fetchWords {R : Room} {s : State} {args : Array Value} (hts : ∀ w ∈ GT, w.before args s = true) (hR : 3 + 1 ≤ R.frames ∧ 8 + (4 + 11) + 40 * 3 ≤ R.locals) : CallW R s args RX0 RX0 126 yX0_fetchWords cX0_fetchWords 4 none ((.code yX0_fetchWords cX0_fetchWords 4 none : Cond) :: GT) (rmD 3) 0 0 2 :=
  cwV 2 hts (show GoodIn GT (wsV RX0 126 RX0 yX0_fetchWords ((.code yX0_fetchWords cX0_fetchWords 4 none : Cond) :: GT)) from lw_gin (lw_gin (lw_gin (lw_gin (lw_gin lw_self gw_130) gw_1) gw_291) gw_129) gw_128) rfl rfl rfl (by decide +kernel) hR
set_option maxRecDepth 100000 in
set_option maxHeartbeats 4000000 in
theorem cx_load (l : Launch) (D : va_G) (o : Nat → Nat) (cA : ClassId) (S : SX) (u b k : Nat) (hu : u < 4) (hbb : b < 16) (hk : k < 2) (hok : okB S) : xMv l D o cA yX0_load cX0_load 6 4 [.ref (o 0), .int (nI u), .int (nI b), .int (nI k)] S (xLo S u b k) := by
  intro sz
  refine x_met (by decide) rfl (Nat.le_of_ble_eq_true rfl) ?_
  intro P0 e s m below meth c ls hsz hx hb hml hr hlocks hown hts hl hw
  subst hsz
  have hl : lv_has ls 6 [(0, .ref (o 0)), (1, .int (nI u)), (2, .int (nI b)), (3, .int (nI k))] := hl
  obtain ⟨c9, hc9, hB9⟩ := hok (2 * u + b % 2) (by omega)
  refine lv_iload_n hx hb dX0_load_0 rfl (lv_at hl 1 rfl) ?_
  refine lv_iload_n hx hb dX0_load_1 rfl (lv_at hl 2 rfl) ?_
  refine x_cs (rest := []) ⟨hx, hb, hml, hown, hts⟩ (cx_lineFor l u b (by omega) (by omega)) (cwx_lineFor hts ⟨by decide, by decide⟩) hw rfl hl.1 rfl (Nat.le_of_ble_eq_true rfl) dX0_load_2 ⟨Nat.zero_le _, Nat.zero_le _⟩ (fun H locs hw => ?_)
  refine lv_istore (lv' := [(4, .int (nI (2 * u + b % 2))), (0, .ref (o 0)), (1, .int (nI u)), (2, .int (nI b)), (3, .int (nI k))]) hx hb dX0_load_5 hl (by decide) rfl (fun ls hl => ?_)
  refine lv_aload_n hx hb dX0_load_7 rfl (lv_at hl 1 rfl) ?_
  refine lv_iload hx hb dX0_load_8 (lv_at hl 0 rfl) ?_
  refine x_ci (rest := []) ⟨hx, hb, hml, hown, hts⟩ (cx_emptyLine l D o cA S (2 * u + b % 2) c9 (by omega) hc9 hB9) (cwx_emptyLine hts ⟨by decide, by decide⟩) hw rfl hl.1 rfl (Nat.le_of_ble_eq_true rfl) dX0_load_10 ⟨Nat.zero_le _, Nat.zero_le _⟩ (fun H locs hw => ?_)
  refine lv_pop hx hb dX0_load_13 rfl ?_
  refine lv_aload_n hx hb dX0_load_14 rfl (lv_at hl 1 rfl) ?_
  refine lv_iload_n hx hb dX0_load_15 rfl (lv_at hl 4 rfl) ?_
  refine lv_iload_n hx hb dX0_load_16 rfl (lv_at hl 2 rfl) ?_
  refine lv_iload_n hx hb dX0_load_17 rfl (lv_at hl 3 rfl) ?_
  refine x_cv (rest := []) ⟨hx, hb, hml, hown, hts⟩ (cx_transact l D o cA (xEm S (2 * u + b % 2)) k u b (by omega) (by omega) (by omega)) (cwx_transact hts ⟨by decide, by decide⟩) hw rfl hl.1 rfl (Nat.le_of_ble_eq_true rfl) dX0_load_18 ⟨Nat.zero_le _, Nat.zero_le _⟩ (fun H locs hw => ?_)
  refine lv_aload_n hx hb dX0_load_21 rfl (lv_at hl 1 rfl) ?_
  refine lv_iload hx hb dX0_load_22 (lv_at hl 0 rfl) ?_
  refine lv_iload_n hx hb dX0_load_24 rfl (lv_at hl 3 rfl) ?_
  refine x_cv (rest := []) ⟨hx, hb, hml, hown, hts⟩ (cx_fetchWords l D o cA (xTr (xEm S (2 * u + b % 2)) k u b) (2 * u + b % 2) b (by omega) (by omega)) (cwx_fetchWords hts ⟨by decide, by decide⟩) hw rfl hl.1 rfl (Nat.le_of_ble_eq_true rfl) dX0_load_25 ⟨Nat.zero_le _, Nat.zero_le _⟩ (fun H locs hw => ?_)
  have hw : xW D o cA (xA o s.heap.size) s s.heap (xLoT S u b k) H locs := hw
  refine lv_iconst (v := 4) hx hb dX0_load_28 (by decide) ?_
  refine lv_istore (lv' := [(5, .int 4), (4, .int (nI (2 * u + b % 2))), (0, .ref (o 0)), (1, .int (nI u)), (2, .int (nI b)), (3, .int (nI k))]) hx hb dX0_load_29 hl (by decide) rfl (fun ls hl => ?_)
  refine lv_iload_n hx hb dX0_load_31 rfl (lv_at hl 5 rfl) ?_
  refine lv_iconst (v := 1) hx hb dX0_load_32 (by decide) ?_
  refine lv_icmp_ne (tgt := 45) hx hb dX0_load_33 (by decide) (fun g1 => ?_) (fun g1 => ?_)
  · have g1 : ¬ k = 1 := fun h9 => g1 ((nI_eq (a := k) (b := 1) (by omega) (by omega)).mpr h9)
    refine lv_aload_n hx hb dX0_load_45 rfl (lv_at hl 2 rfl) ?_
    refine lv_iload_n hx hb dX0_load_46 rfl (lv_at hl 3 rfl) ?_
    refine lv_iload_n hx hb dX0_load_47 rfl (lv_at hl 4 rfl) ?_
    refine x_ci (rest := []) ⟨hx, hb, hml, hown, hts⟩ (cx_shareWithOthers l D o cA (xLoT S u b k) u b (by omega) (by omega) (fun i hi => by rw [xLoT_1]; exact hok i hi)) (cwx_shareWithOthers hts ⟨by decide, by decide⟩) hw rfl hl.1 rfl (Nat.le_of_ble_eq_true rfl) dX0_load_48 ⟨Nat.zero_le _, Nat.zero_le _⟩ (fun H locs hw => ?_)
    refine lv_istore (lv' := [(5, .int ((xSh (xLoT S u b k) u b).2)), (4, .int (nI (2 * u + b % 2))), (0, .ref (o 0)), (1, .int (nI u)), (2, .int (nI b)), (3, .int (nI k))]) hx hb dX0_load_51 hl (by decide) rfl (fun ls hl => ?_)
    refine lv_aload_n hx hb dX0_load_53 rfl (lv_at hl 2 rfl) ?_
    refine x_g1 hx hb hts hown hw dX0_load_54 ?_
    refine lv_iload hx hb dX0_load_57 (lv_at hl 1 rfl) ?_
    refine lv_iload_n hx hb dX0_load_59 rfl (lv_at hl 4 rfl) ?_
    refine x_s1 (n := 2 * u + b % 2) (x := nI b) hx hb hw (by omega) dX0_load_60 (fun H locs hw => ?_)
    refine lv_aload_n hx hb dX0_load_61 rfl (lv_at hl 2 rfl) ?_
    refine x_g0 hx hb hts hown hw dX0_load_62 ?_
    refine lv_iload hx hb dX0_load_65 (lv_at hl 1 rfl) ?_
    refine lv_iload hx hb dX0_load_67 (lv_at hl 0 rfl) ?_
    refine x_s0 (n := 2 * u + b % 2) (x := ((xSh (xLoT S u b k) u b).2)) hx hb hw (by omega) dX0_load_69 (fun H locs hw => ?_)
    exact x_retv hx hb hr hlocks hw (by rw [xLo, xLoR, if_neg g1]; rfl) dX0_load_70
  · have g1 : k = 1 := (nI_eq (a := k) (b := 1) (by omega) (by omega)).mp g1
    refine lv_aload_n hx hb dX0_load_36 rfl (lv_at hl 2 rfl) ?_
    refine lv_iload_n hx hb dX0_load_37 rfl (lv_at hl 3 rfl) ?_
    refine lv_iload_n hx hb dX0_load_38 rfl (lv_at hl 4 rfl) ?_
    refine x_cv (rest := []) ⟨hx, hb, hml, hown, hts⟩ (cx_dropOthers l D o cA (xLoT S u b k) u b (by omega) (by omega)) (cwx_dropOthers hts ⟨by decide, by decide⟩) hw rfl hl.1 rfl (Nat.le_of_ble_eq_true rfl) dX0_load_39 ⟨Nat.zero_le _, Nat.zero_le _⟩ (fun H locs hw => ?_)
    refine lv_goto (tgt := 53) hx hb dX0_load_42 (by decide) ?_
    refine lv_aload_n hx hb dX0_load_53 rfl (lv_at hl 2 rfl) ?_
    refine x_g1 hx hb hts hown hw dX0_load_54 ?_
    refine lv_iload hx hb dX0_load_57 (lv_at hl 1 rfl) ?_
    refine lv_iload_n hx hb dX0_load_59 rfl (lv_at hl 4 rfl) ?_
    refine x_s1 (n := 2 * u + b % 2) (x := nI b) hx hb hw (by omega) dX0_load_60 (fun H locs hw => ?_)
    refine lv_aload_n hx hb dX0_load_61 rfl (lv_at hl 2 rfl) ?_
    refine x_g0 hx hb hts hown hw dX0_load_62 ?_
    refine lv_iload hx hb dX0_load_65 (lv_at hl 1 rfl) ?_
    refine lv_iload hx hb dX0_load_67 (lv_at hl 0 rfl) ?_
    refine x_s0 (n := 2 * u + b % 2) (x := 4) hx hb hw (by omega) dX0_load_69 (fun H locs hw => ?_)
    exact x_retv hx hb hr hlocks hw (by rw [xLo, xLoR, if_pos g1]; rfl) dX0_load_70
theorem cwx_load {R : Room} {s : State} {args : Array Value} (hts : ∀ w ∈ GT, w.before args s = true) (hR : 4 + 1 ≤ R.frames ∧ 8 + (6 + 11) + 40 * 4 ≤ R.locals) : CallW R s args RX0 RX0 123 yX0_load cX0_load 6 none ((.code yX0_load cX0_load 6 none : Cond) :: GT) (rmD 4) 0 0 3 :=
  cwV 3 hts (show GoodIn GT (wsV RX0 123 RX0 yX0_load ((.code yX0_load cX0_load 6 none : Cond) :: GT)) from lw_gin (lw_gin (lw_gin (lw_gin (lw_gin lw_self gw_127) gw_1) gw_290) gw_126) gw_125) rfl rfl rfl (by decide +kernel) hR
set_option maxRecDepth 100000 in
set_option maxHeartbeats 4000000 in
theorem cx_bringIn (l : Launch) (D : va_G) (o : Nat → Nat) (cA : ClassId) (S : SX) (u b k : Nat) (hu : u < 4) (hbb : b < 16) (hk : k < 2) (hok : okB S) : xMv l D o cA yX0_bringIn cX0_bringIn 4 5 [.ref (o 0), .int (nI u), .int (nI b), .int (nI k)] S (xBr S u b k) := by
  intro sz
  refine x_met (by decide) rfl (Nat.le_of_ble_eq_true rfl) ?_
  intro P0 e s m below meth c ls hsz hx hb hml hr hlocks hown hts hl hw
  subst hsz
  have hl : lv_has ls 4 [(0, .ref (o 0)), (1, .int (nI u)), (2, .int (nI b)), (3, .int (nI k))] := hl
  refine lv_aload_n hx hb dX0_bringIn_0 rfl (lv_at hl 0 rfl) ?_
  refine lv_iload_n hx hb dX0_bringIn_1 rfl (lv_at hl 1 rfl) ?_
  refine lv_iload_n hx hb dX0_bringIn_2 rfl (lv_at hl 2 rfl) ?_
  refine x_ci (rest := []) ⟨hx, hb, hml, hown, hts⟩ (cx_holds l D o cA S u b (by omega) (by omega)) (cwx_holds hts ⟨by decide, by decide⟩) hw rfl hl.1 rfl (Nat.le_of_ble_eq_true rfl) dX0_bringIn_3 ⟨Nat.zero_le _, Nat.zero_le _⟩ (fun H locs hw => ?_)
  refine lv_if_eq (tgt := 22) hx hb dX0_bringIn_6 (by decide) (fun g1 => ?_) (fun g1 => ?_)
  · have g1 := bI_z.mp g1
    refine lv_aload_n hx hb dX0_bringIn_22 rfl (lv_at hl 0 rfl) ?_
    refine lv_dup hx hb dX0_bringIn_23 rfl ?_
    refine x_f3 hx hb hts hown hw dX0_bringIn_24 ?_
    refine lv_iconst (v := 1) hx hb dX0_bringIn_27 (by decide) ?_
    refine lv_iadd hx hb dX0_bringIn_28 ?_
    refine x_p3 (x := ((S.2 3) + 1)) hx hb hts hown hw dX0_bringIn_29 (fun H locs hw => ?_)
    refine lv_aload_n hx hb dX0_bringIn_32 rfl (lv_at hl 0 rfl) ?_
    refine lv_iload_n hx hb dX0_bringIn_33 rfl (lv_at hl 1 rfl) ?_
    refine lv_iload_n hx hb dX0_bringIn_34 rfl (lv_at hl 2 rfl) ?_
    refine lv_iload_n hx hb dX0_bringIn_35 rfl (lv_at hl 3 rfl) ?_
    refine x_cv (rest := []) ⟨hx, hb, hml, hown, hts⟩ (cx_load l D o cA (zF S 3 ((S.2 3) + 1)) u b k (by omega) (by omega) (by omega) hok) (cwx_load hts ⟨by decide, by decide⟩) hw rfl hl.1 rfl (Nat.le_of_ble_eq_true rfl) dX0_bringIn_36 ⟨Nat.zero_le _, Nat.zero_le _⟩ (fun H locs hw => ?_)
    exact x_retv hx hb hr hlocks hw (by simp [xBr, g1]) dX0_bringIn_39
  · have g1 := bI_n.mp g1
    refine lv_aload_n hx hb dX0_bringIn_9 rfl (lv_at hl 0 rfl) ?_
    refine lv_dup hx hb dX0_bringIn_10 rfl ?_
    refine x_f2 hx hb hts hown hw dX0_bringIn_11 ?_
    refine lv_iconst (v := 1) hx hb dX0_bringIn_14 (by decide) ?_
    refine lv_iadd hx hb dX0_bringIn_15 ?_
    refine x_p2 (x := ((S.2 2) + 1)) hx hb hts hown hw dX0_bringIn_16 (fun H locs hw => ?_)
    refine lv_goto (tgt := 39) hx hb dX0_bringIn_19 (by decide) ?_
    exact x_retv hx hb hr hlocks hw (by simp [xBr, g1]) dX0_bringIn_39
theorem cwx_bringIn {R : Room} {s : State} {args : Array Value} (hts : ∀ w ∈ GT, w.before args s = true) (hR : 5 + 1 ≤ R.frames ∧ 8 + (4 + 11) + 40 * 5 ≤ R.locals) : CallW R s args RX0 RX0 54 yX0_bringIn cX0_bringIn 4 none ((.code yX0_bringIn cX0_bringIn 4 none : Cond) :: GT) (rmD 5) 0 0 3 :=
  cwV 3 hts (show GoodIn GT (wsV RX0 54 RX0 yX0_bringIn ((.code yX0_bringIn cX0_bringIn 4 none : Cond) :: GT)) from lw_gin (lw_gin (lw_gin (lw_gin (lw_gin lw_self gw_124) gw_1) gw_289) gw_123) gw_122) rfl rfl rfl (by decide +kernel) hR
set_option maxRecDepth 100000 in
set_option maxHeartbeats 4000000 in
theorem cx_claim (l : Launch) (D : va_G) (o : Nat → Nat) (cA : ClassId) (S : SX) (u b : Nat) (hu : u < 4) (hbb : b < 16) : xMv l D o cA yX0_claim cX0_claim 4 3 [.ref (o 0), .int (nI u), .int (nI b)] S (xCl S u b) := by
  intro sz
  refine x_met (by decide) rfl (Nat.le_of_ble_eq_true rfl) ?_
  intro P0 e s m below meth c ls hsz hx hb hml hr hlocks hown hts hl hw
  subst hsz
  have hl : lv_has ls 4 [(0, .ref (o 0)), (1, .int (nI u)), (2, .int (nI b))] := hl
  refine lv_iload_n hx hb dX0_claim_0 rfl (lv_at hl 1 rfl) ?_
  refine lv_iload_n hx hb dX0_claim_1 rfl (lv_at hl 2 rfl) ?_
  refine x_cs (rest := []) ⟨hx, hb, hml, hown, hts⟩ (cx_lineFor l u b (by omega) (by omega)) (cwx_lineFor hts ⟨by decide, by decide⟩) hw rfl hl.1 rfl (Nat.le_of_ble_eq_true rfl) dX0_claim_2 ⟨Nat.zero_le _, Nat.zero_le _⟩ (fun H locs hw => ?_)
  refine lv_istore_n (lv' := [(3, .int (nI (2 * u + b % 2))), (0, .ref (o 0)), (1, .int (nI u)), (2, .int (nI b))]) hx hb dX0_claim_5 rfl hl (by decide) rfl (fun ls hl => ?_)
  refine lv_aload_n hx hb dX0_claim_6 rfl (lv_at hl 1 rfl) ?_
  refine x_g0 hx hb hts hown hw dX0_claim_7 ?_
  refine lv_iload_n hx hb dX0_claim_10 rfl (lv_at hl 0 rfl) ?_
  refine x_l0 (n := 2 * u + b % 2) hx hb hw (by omega) dX0_claim_11 ?_
  refine x_cs (rest := []) ⟨hx, hb, hml, hown, hts⟩ (cx_isPerhapsElsewhere l (S.1 0 (2 * u + b % 2))) (cwx_isPerhapsElsewhere hts ⟨by decide, by decide⟩) hw rfl hl.1 rfl (Nat.le_of_ble_eq_true rfl) dX0_claim_12 ⟨Nat.zero_le _, Nat.zero_le _⟩ (fun H locs hw => ?_)
  refine lv_if_eq (tgt := 31) hx hb dX0_claim_15 (by decide) (fun g1 => ?_) (fun g1 => ?_)
  · have g1 := bI_z.mp g1
    refine lv_aload_n hx hb dX0_claim_31 rfl (lv_at hl 1 rfl) ?_
    refine x_g0 hx hb hts hown hw dX0_claim_32 ?_
    refine lv_iload_n hx hb dX0_claim_35 rfl (lv_at hl 0 rfl) ?_
    refine lv_iconst (v := 4) hx hb dX0_claim_36 (by decide) ?_
    refine x_s0 (n := 2 * u + b % 2) (x := 4) hx hb hw (by omega) dX0_claim_37 (fun H locs hw => ?_)
    exact x_retv hx hb hr hlocks hw (by simp [xCl, xClT, g1]) dX0_claim_38
  · have g1 := bI_n.mp g1
    refine lv_aload_n hx hb dX0_claim_18 rfl (lv_at hl 1 rfl) ?_
    refine lv_iconst (v := 2) hx hb dX0_claim_19 (by decide) ?_
    refine lv_iload_n hx hb dX0_claim_20 rfl (lv_at hl 2 rfl) ?_
    refine lv_iload_n hx hb dX0_claim_21 rfl (lv_at hl 3 rfl) ?_
    refine x_cv (rest := []) ⟨hx, hb, hml, hown, hts⟩ (cx_transact l D o cA S 2 u b (by omega) (by omega) (by omega)) (cwx_transact hts ⟨by decide, by decide⟩) hw rfl hl.1 rfl (Nat.le_of_ble_eq_true rfl) dX0_claim_22 ⟨Nat.zero_le _, Nat.zero_le _⟩ (fun H locs hw => ?_)
    refine lv_aload_n hx hb dX0_claim_25 rfl (lv_at hl 1 rfl) ?_
    refine lv_iload_n hx hb dX0_claim_26 rfl (lv_at hl 2 rfl) ?_
    refine lv_iload_n hx hb dX0_claim_27 rfl (lv_at hl 3 rfl) ?_
    refine x_cv (rest := []) ⟨hx, hb, hml, hown, hts⟩ (cx_dropOthers l D o cA (xTr S 2 u b) u b (by omega) (by omega)) (cwx_dropOthers hts ⟨by decide, by decide⟩) hw rfl hl.1 rfl (Nat.le_of_ble_eq_true rfl) dX0_claim_28 ⟨Nat.zero_le _, Nat.zero_le _⟩ (fun H locs hw => ?_)
    refine lv_aload_n hx hb dX0_claim_31 rfl (lv_at hl 1 rfl) ?_
    refine x_g0 hx hb hts hown hw dX0_claim_32 ?_
    refine lv_iload_n hx hb dX0_claim_35 rfl (lv_at hl 0 rfl) ?_
    refine lv_iconst (v := 4) hx hb dX0_claim_36 (by decide) ?_
    refine x_s0 (n := 2 * u + b % 2) (x := 4) hx hb hw (by omega) dX0_claim_37 (fun H locs hw => ?_)
    exact x_retv hx hb hr hlocks hw (by simp [xCl, xClT, g1]) dX0_claim_38
theorem cwx_claim {R : Room} {s : State} {args : Array Value} (hts : ∀ w ∈ GT, w.before args s = true) (hR : 3 + 1 ≤ R.frames ∧ 8 + (4 + 11) + 40 * 3 ≤ R.locals) : CallW R s args RX0 RX0 72 yX0_claim cX0_claim 4 none ((.code yX0_claim cX0_claim 4 none : Cond) :: GT) (rmD 3) 0 0 2 :=
  cwV 2 hts (show GoodIn GT (wsV RX0 72 RX0 yX0_claim ((.code yX0_claim cX0_claim 4 none : Cond) :: GT)) from lw_gin (lw_gin (lw_gin (lw_gin (lw_gin lw_self gw_164) gw_1) gw_299) gw_163) gw_162) rfl rfl rfl (by decide +kernel) hR
set_option maxRecDepth 100000 in
set_option maxHeartbeats 4000000 in
theorem cx_updateOthers (l : Launch) (D : va_G) (o : Nat → Nat) (cA : ClassId) (S : SX) (u a : Nat) (w : Int32) (hu : u < 4) (ha : a < 32) : xMi l D o cA yX0_updateOthers cX0_updateOthers 6 (some .boolean) 3 [.ref (o 0), .int (nI u), .int (nI a), .int w] S ((xUpF u a w 4 0 (S, false)).1) (bI (xUpF u a w 4 0 (S, false)).2) := by
  intro sz
  refine x_met (by decide) rfl (Nat.le_of_ble_eq_true rfl) ?_
  intro P0 e s m below meth c ls hsz hx hb hml hr hlocks hown hts hl hw
  subst hsz
  have hl : lv_has ls 6 [(0, .ref (o 0)), (1, .int (nI u)), (2, .int (nI a)), (3, .int w)] := hl
  have loop : ∀ (n k : Nat), n + k = 4 → ∀ (S' : SX) (ot : Bool) (H : Heap) (locs : List Loc) (ls : Array Slot), lv_has ls 6 [(5, .int (nI k)), (4, .int (bI ot)), (0, .ref (o 0)), (1, .int (nI u)), (2, .int (nI a)), (3, .int w)] → xW D o cA (xA o s.heap.size) s s.heap S' H locs → xUpF u a w n k (S', ot) = xUpF u a w 4 0 (S, false) → W P0 l e (rmD 3) s m ([.ref (o 0), .int (nI u), .int (nI a), .int w]).toArray below meth c H locs 0 0 (MQ below (xQi D o cA s.heap.size ((xUpF u a w 4 0 (S, false)).1) (bI (xUpF u a w 4 0 (S, false)).2)) ([.ref (o 0), .int (nI u), .int (nI a), .int w]).toArray s 0 0 (xA o s.heap.size)) (F0 m 6 ls []) := by
    intro n
    induction n with
    | zero =>
      intro k hk S' ot H locs ls hl hw hf
      obtain rfl : k = 4 := by omega
      refine lv_iload hx hb dX0_updateOthers_6 (lv_at hl 0 rfl) ?_
      refine lv_iconst (v := 4) hx hb dX0_updateOthers_8 (by decide) ?_
      refine lv_icmp_ge (tgt := 67) hx hb dX0_updateOthers_9 (by decide) (fun _ => ?_) (fun h9 => absurd (by decide) h9)
      refine lv_iload hx hb dX0_updateOthers_67 (lv_at hl 1 rfl) ?_
      exact x_retz hx hb hr hlocks hw ⟨by rw [← hf]; rfl, by rw [← hf]; rfl⟩ dX0_updateOthers_69
    | succ n ih =>
      intro k hk S' ot H locs ls hl hw hf
      refine lv_iload hx hb dX0_updateOthers_6 (lv_at hl 0 rfl) ?_
      refine lv_iconst (v := 4) hx hb dX0_updateOthers_8 (by decide) ?_
      refine lv_icmp_ge (tgt := 67) hx hb dX0_updateOthers_9 (by decide) (fun h9 => absurd h9 (nI_ge (a := k) (b := 4) (by omega) (by decide))) (fun _ => ?_)
      refine lv_iload hx hb dX0_updateOthers_12 (lv_at hl 0 rfl) ?_
      refine lv_iload_n hx hb dX0_updateOthers_14 rfl (lv_at hl 3 rfl) ?_
      refine lv_icmp_eq (tgt := 61) hx hb dX0_updateOthers_15 (by decide) (fun g1 => ?_) (fun g1 => ?_)
      · have g1 : k = u := (nI_eq (a := k) (b := u) (by omega) (by omega)).mp g1
        refine lv_iinc (k := 0) (v := nI (k + 1)) (lv' := [(5, .int (nI (k + 1))), (4, .int (bI ot)), (0, .ref (o 0)), (1, .int (nI u)), (2, .int (nI a)), (3, .int w)]) hx hb dX0_updateOthers_61 hl rfl (lw_inc k 1) (by decide) rfl (fun ls hl => ?_)
        refine lv_goto (tgt := 6) hx hb dX0_updateOthers_64 (by decide) ?_
        exact ih (k + 1) (by omega) _ ot _ _ _ (lv_sub hl [0, 1, 2, 3, 4, 5] rfl) hw (by rw [← hf]; simp [xUpF, xUp1, zA_n, g1])
      · have g1 : ¬ k = u := fun h9 => g1 ((nI_eq (a := k) (b := u) (by omega) (by omega)).mpr h9)
        refine lv_aload_n hx hb dX0_updateOthers_18 rfl (lv_at hl 2 rfl) ?_
        refine lv_iload hx hb dX0_updateOthers_19 (lv_at hl 0 rfl) ?_
        refine lv_iload_n hx hb dX0_updateOthers_21 rfl (lv_at hl 4 rfl) ?_
        refine x_cs (rest := [.int (nI k), .ref (o 0)]) ⟨hx, hb, hml, hown, hts⟩ (cx_blockOf l a (by omega)) (cwx_blockOf hts ⟨by decide, by decide⟩) hw rfl hl.1 rfl (Nat.le_of_ble_eq_true rfl) dX0_updateOthers_22 ⟨Nat.zero_le _, Nat.zero_le _⟩ (fun H locs hw => ?_)
        refine x_ci (rest := []) ⟨hx, hb, hml, hown, hts⟩ (cx_holds l D o cA S' k (a / 2) (by omega) (by omega)) (cwx_holds hts ⟨by decide, by decide⟩) hw rfl hl.1 rfl (Nat.le_of_ble_eq_true rfl) dX0_updateOthers_25 ⟨Nat.zero_le _, Nat.zero_le _⟩ (fun H locs hw => ?_)
        refine lv_if_eq (tgt := 61) hx hb dX0_updateOthers_28 (by decide) (fun g2 => ?_) (fun g2 => ?_)
        · have g2 := bI_z.mp g2
          refine lv_iinc (k := 0) (v := nI (k + 1)) (lv' := [(5, .int (nI (k + 1))), (4, .int (bI ot)), (0, .ref (o 0)), (1, .int (nI u)), (2, .int (nI a)), (3, .int w)]) hx hb dX0_updateOthers_61 hl rfl (lw_inc k 1) (by decide) rfl (fun ls hl => ?_)
          refine lv_goto (tgt := 6) hx hb dX0_updateOthers_64 (by decide) ?_
          exact ih (k + 1) (by omega) _ ot _ _ _ (lv_sub hl [0, 1, 2, 3, 4, 5] rfl) hw (by rw [← hf]; simp [xUpF, xUp1, zA_n, g1, g2])
        · have g2 := bI_n.mp g2
          refine lv_iconst (v := 1) hx hb dX0_updateOthers_31 (by decide) ?_
          refine lv_istore (lv' := [(4, .int 1), (5, .int (nI k)), (0, .ref (o 0)), (1, .int (nI u)), (2, .int (nI a)), (3, .int w)]) hx hb dX0_updateOthers_32 hl (by decide) rfl (fun ls hl => ?_)
          refine lv_aload_n hx hb dX0_updateOthers_34 rfl (lv_at hl 2 rfl) ?_
          refine x_g2 hx hb hts hown hw dX0_updateOthers_35 ?_
          refine lv_iload hx hb dX0_updateOthers_38 (lv_at hl 1 rfl) ?_
          refine lv_iload_n hx hb dX0_updateOthers_40 rfl (lv_at hl 4 rfl) ?_
          refine x_cs (rest := [.ref (o 3)]) ⟨hx, hb, hml, hown, hts⟩ (cx_wordIndex l k a (by omega) (by omega)) (cwx_wordIndex hts ⟨by decide, by decide⟩) hw rfl hl.1 rfl (Nat.le_of_ble_eq_true rfl) dX0_updateOthers_41 ⟨Nat.zero_le _, Nat.zero_le _⟩ (fun H locs hw => ?_)
          refine lv_iload_n hx hb dX0_updateOthers_44 rfl (lv_at hl 5 rfl) ?_
          refine x_s2 (n := 2 * (2 * k + a / 2 % 2) + a % 2) (x := w) hx hb hw (by omega) dX0_updateOthers_45 (fun H locs hw => ?_)
          refine lv_aload_n hx hb dX0_updateOthers_46 rfl (lv_at hl 2 rfl) ?_
          refine x_g0 hx hb hts hown hw dX0_updateOthers_47 ?_
          refine lv_iload hx hb dX0_updateOthers_50 (lv_at hl 1 rfl) ?_
          refine lv_iload_n hx hb dX0_updateOthers_52 rfl (lv_at hl 4 rfl) ?_
          refine x_cs (rest := [.int (nI k), .ref (o 1)]) ⟨hx, hb, hml, hown, hts⟩ (cx_blockOf l a (by omega)) (cwx_blockOf hts ⟨by decide, by decide⟩) hw rfl hl.1 rfl (Nat.le_of_ble_eq_true rfl) dX0_updateOthers_53 ⟨Nat.zero_le _, Nat.zero_le _⟩ (fun H locs hw => ?_)
          refine x_cs (rest := [.ref (o 1)]) ⟨hx, hb, hml, hown, hts⟩ (cx_lineFor l k (a / 2) (by omega) (by omega)) (cwx_lineFor hts ⟨by decide, by decide⟩) hw rfl hl.1 rfl (Nat.le_of_ble_eq_true rfl) dX0_updateOthers_56 ⟨Nat.zero_le _, Nat.zero_le _⟩ (fun H locs hw => ?_)
          refine lv_iconst (v := 1) hx hb dX0_updateOthers_59 (by decide) ?_
          refine x_s0 (n := 2 * k + (a / 2) % 2) (x := 1) hx hb hw (by omega) dX0_updateOthers_60 (fun H locs hw => ?_)
          refine lv_iinc (k := 1) (v := nI (k + 1)) (lv' := [(5, .int (nI (k + 1))), (4, .int 1), (0, .ref (o 0)), (1, .int (nI u)), (2, .int (nI a)), (3, .int w)]) hx hb dX0_updateOthers_61 hl rfl (lw_inc k 1) (by decide) rfl (fun ls hl => ?_)
          refine lv_goto (tgt := 6) hx hb dX0_updateOthers_64 (by decide) ?_
          exact ih (k + 1) (by omega) _ true _ _ _ (lv_sub hl [0, 1, 2, 3, 4, 5] rfl) hw (by rw [← hf]; simp [xUpF, xUp1, zA_n, g1, g2])
  refine lv_iconst (v := 0) hx hb dX0_updateOthers_0 (by decide) ?_
  refine lv_istore (lv' := [(4, .int 0), (0, .ref (o 0)), (1, .int (nI u)), (2, .int (nI a)), (3, .int w)]) hx hb dX0_updateOthers_1 hl (by decide) rfl (fun ls hl => ?_)
  refine lv_iconst (v := 0) hx hb dX0_updateOthers_3 (by decide) ?_
  refine lv_istore (lv' := [(5, .int 0), (4, .int 0), (0, .ref (o 0)), (1, .int (nI u)), (2, .int (nI a)), (3, .int w)]) hx hb dX0_updateOthers_4 hl (by decide) rfl (fun ls hl => ?_)
  exact loop 4 0 rfl _ false _ _ _ (lv_sub hl [0, 1, 2, 3, 4, 5] rfl) hw rfl
theorem cwx_updateOthers {R : Room} {s : State} {args : Array Value} (hts : ∀ w ∈ GT, w.before args s = true) (hR : 3 + 1 ≤ R.frames ∧ 8 + (6 + 11) + 40 * 3 ≤ R.locals) : CallW R s args RX0 RX0 144 yX0_updateOthers cX0_updateOthers 6 (some .boolean) ((.code yX0_updateOthers cX0_updateOthers 6 (some .boolean) : Cond) :: GT) (rmD 3) 0 0 3 :=
  cwV 3 hts (show GoodIn GT (wsV RX0 144 RX0 yX0_updateOthers ((.code yX0_updateOthers cX0_updateOthers 6 (some .boolean) : Cond) :: GT)) from lw_gin (lw_gin (lw_gin (lw_gin (lw_gin lw_self gw_161) gw_1) gw_298) gw_160) gw_159) rfl rfl rfl (by decide +kernel) hR
set_option maxRecDepth 100000 in
set_option maxHeartbeats 4000000 in
theorem cx_tellOthers (l : Launch) (D : va_G) (o : Nat → Nat) (cA : ClassId) (S : SX) (u a : Nat) (w : Int32) (hu : u < 4) (ha : a < 32) : xMv l D o cA yX0_tellOthers cX0_tellOthers 7 4 [.ref (o 0), .int (nI u), .int (nI a), .int w] S (xTe S u a w) := by
  intro sz
  refine x_met (by decide) rfl (Nat.le_of_ble_eq_true rfl) ?_
  intro P0 e s m below meth c ls hsz hx hb hml hr hlocks hown hts hl hw
  subst hsz
  have hl : lv_has ls 7 [(0, .ref (o 0)), (1, .int (nI u)), (2, .int (nI a)), (3, .int w)] := hl
  refine lv_iload_n hx hb dX0_tellOthers_0 rfl (lv_at hl 2 rfl) ?_
  refine x_cs (rest := []) ⟨hx, hb, hml, hown, hts⟩ (cx_blockOf l a (by omega)) (cwx_blockOf hts ⟨by decide, by decide⟩) hw rfl hl.1 rfl (Nat.le_of_ble_eq_true rfl) dX0_tellOthers_1 ⟨Nat.zero_le _, Nat.zero_le _⟩ (fun H locs hw => ?_)
  refine lv_istore (lv' := [(4, .int (nI (a / 2))), (0, .ref (o 0)), (1, .int (nI u)), (2, .int (nI a)), (3, .int w)]) hx hb dX0_tellOthers_4 hl (by decide) rfl (fun ls hl => ?_)
  refine lv_iload_n hx hb dX0_tellOthers_6 rfl (lv_at hl 2 rfl) ?_
  refine lv_iload hx hb dX0_tellOthers_7 (lv_at hl 0 rfl) ?_
  refine x_cs (rest := []) ⟨hx, hb, hml, hown, hts⟩ (cx_lineFor l u (a / 2) (by omega) (by omega)) (cwx_lineFor hts ⟨by decide, by decide⟩) hw rfl hl.1 rfl (Nat.le_of_ble_eq_true rfl) dX0_tellOthers_9 ⟨Nat.zero_le _, Nat.zero_le _⟩ (fun H locs hw => ?_)
  refine lv_istore (lv' := [(5, .int (nI (2 * u + (a / 2) % 2))), (4, .int (nI (a / 2))), (0, .ref (o 0)), (1, .int (nI u)), (2, .int (nI a)), (3, .int w)]) hx hb dX0_tellOthers_12 hl (by decide) rfl (fun ls hl => ?_)
  refine lv_iconst (v := 0) hx hb dX0_tellOthers_14 (by decide) ?_
  refine lv_istore (lv' := [(6, .int 0), (5, .int (nI (2 * u + (a / 2) % 2))), (4, .int (nI (a / 2))), (0, .ref (o 0)), (1, .int (nI u)), (2, .int (nI a)), (3, .int w)]) hx hb dX0_tellOthers_15 hl (by decide) rfl (fun ls hl => ?_)
  refine lv_aload_n hx hb dX0_tellOthers_17 rfl (lv_at hl 3 rfl) ?_
  refine x_g0 hx hb hts hown hw dX0_tellOthers_18 ?_
  refine lv_iload hx hb dX0_tellOthers_21 (lv_at hl 1 rfl) ?_
  refine x_l0 (n := 2 * u + (a / 2) % 2) hx hb hw (by omega) dX0_tellOthers_23 ?_
  refine x_cs (rest := []) ⟨hx, hb, hml, hown, hts⟩ (cx_isPerhapsElsewhere l (S.1 0 (2 * u + (a / 2) % 2))) (cwx_isPerhapsElsewhere hts ⟨by decide, by decide⟩) hw rfl hl.1 rfl (Nat.le_of_ble_eq_true rfl) dX0_tellOthers_24 ⟨Nat.zero_le _, Nat.zero_le _⟩ (fun H locs hw => ?_)
  refine lv_if_eq (tgt := 47) hx hb dX0_tellOthers_27 (by decide) (fun g1 => ?_) (fun g1 => ?_)
  · have g1 := bI_z.mp g1
    refine lv_aload_n hx hb dX0_tellOthers_47 rfl (lv_at hl 3 rfl) ?_
    refine x_g0 hx hb hts hown hw dX0_tellOthers_48 ?_
    refine lv_iload hx hb dX0_tellOthers_51 (lv_at hl 1 rfl) ?_
    refine lv_iload hx hb dX0_tellOthers_53 (lv_at hl 0 rfl) ?_
    refine lv_if_eq (tgt := 62) hx hb dX0_tellOthers_55 (by decide) (fun _ => ?_) (fun h9 => absurd (by decide) h9)
    refine lv_iconst (v := 4) hx hb dX0_tellOthers_62 (by decide) ?_
    refine x_s0 (n := 2 * u + (a / 2) % 2) (x := 4) hx hb hw (by omega) dX0_tellOthers_63 (fun H locs hw => ?_)
    exact x_retv hx hb hr hlocks hw (by simp [xTe, xTeR, g1]) dX0_tellOthers_64
  · have g1 := bI_n.mp g1
    refine lv_aload_n hx hb dX0_tellOthers_30 rfl (lv_at hl 3 rfl) ?_
    refine lv_iconst (v := 3) hx hb dX0_tellOthers_31 (by decide) ?_
    refine lv_iload_n hx hb dX0_tellOthers_32 rfl (lv_at hl 4 rfl) ?_
    refine lv_iload hx hb dX0_tellOthers_33 (lv_at hl 2 rfl) ?_
    refine x_cv (rest := []) ⟨hx, hb, hml, hown, hts⟩ (cx_transact l D o cA S 3 u (a / 2) (by omega) (by omega) (by omega)) (cwx_transact hts ⟨by decide, by decide⟩) hw rfl hl.1 rfl (Nat.le_of_ble_eq_true rfl) dX0_tellOthers_35 ⟨Nat.zero_le _, Nat.zero_le _⟩ (fun H locs hw => ?_)
    refine lv_aload_n hx hb dX0_tellOthers_38 rfl (lv_at hl 3 rfl) ?_
    refine lv_iload_n hx hb dX0_tellOthers_39 rfl (lv_at hl 4 rfl) ?_
    refine lv_iload_n hx hb dX0_tellOthers_40 rfl (lv_at hl 5 rfl) ?_
    refine lv_iload_n hx hb dX0_tellOthers_41 rfl (lv_at hl 6 rfl) ?_
    refine x_ci (rest := []) ⟨hx, hb, hml, hown, hts⟩ (cx_updateOthers l D o cA (xTr S 3 u (a / 2)) u a w (by omega) (by omega)) (cwx_updateOthers hts ⟨by decide, by decide⟩) hw rfl hl.1 rfl (Nat.le_of_ble_eq_true rfl) dX0_tellOthers_42 ⟨Nat.zero_le _, Nat.zero_le _⟩ (fun H locs hw => ?_)
    refine lv_istore (lv' := [(6, .int (bI ((xUpF u a w 4 0 (xTr S 3 u (a / 2), false)).2))), (5, .int (nI (2 * u + (a / 2) % 2))), (4, .int (nI (a / 2))), (0, .ref (o 0)), (1, .int (nI u)), (2, .int (nI a)), (3, .int w)]) hx hb dX0_tellOthers_45 hl (by decide) rfl (fun ls hl => ?_)
    refine lv_aload_n hx hb dX0_tellOthers_47 rfl (lv_at hl 3 rfl) ?_
    refine x_g0 hx hb hts hown hw dX0_tellOthers_48 ?_
    refine lv_iload hx hb dX0_tellOthers_51 (lv_at hl 1 rfl) ?_
    refine lv_iload hx hb dX0_tellOthers_53 (lv_at hl 0 rfl) ?_
    refine lv_if_eq (tgt := 62) hx hb dX0_tellOthers_55 (by decide) (fun g2 => ?_) (fun g2 => ?_)
    · have g2 := bI_z.mp g2
      refine lv_iconst (v := 4) hx hb dX0_tellOthers_62 (by decide) ?_
      refine x_s0 (n := 2 * u + (a / 2) % 2) (x := 4) hx hb hw (by omega) dX0_tellOthers_63 (fun H locs hw => ?_)
      exact x_retv hx hb hr hlocks hw (by simp [xTe, xTeR, g1, g2]) dX0_tellOthers_64
    · have g2 := bI_n.mp g2
      refine lv_iconst (v := 3) hx hb dX0_tellOthers_58 (by decide) ?_
      refine lv_goto (tgt := 63) hx hb dX0_tellOthers_59 (by decide) ?_
      refine x_s0 (n := 2 * u + (a / 2) % 2) (x := 3) hx hb hw (by omega) dX0_tellOthers_63 (fun H locs hw => ?_)
      exact x_retv hx hb hr hlocks hw (by simp [xTe, xTeR, g1, g2]) dX0_tellOthers_64
theorem cwx_tellOthers {R : Room} {s : State} {args : Array Value} (hts : ∀ w ∈ GT, w.before args s = true) (hR : 4 + 1 ≤ R.frames ∧ 8 + (7 + 11) + 40 * 4 ≤ R.locals) : CallW R s args RX0 RX0 69 yX0_tellOthers cX0_tellOthers 7 none ((.code yX0_tellOthers cX0_tellOthers 7 none : Cond) :: GT) (rmD 4) 0 0 3 :=
  cwV 3 hts (show GoodIn GT (wsV RX0 69 RX0 yX0_tellOthers ((.code yX0_tellOthers cX0_tellOthers 7 none : Cond) :: GT)) from lw_gin (lw_gin (lw_gin (lw_gin (lw_gin lw_self gw_155) gw_1) gw_297) gw_154) gw_153) rfl rfl rfl (by decide +kernel) hR
set_option maxRecDepth 100000 in
set_option maxHeartbeats 4000000 in
theorem cx_flush (l : Launch) (D : va_G) (o : Nat → Nat) (cA : ClassId) (S : SX)  (hok : okB S) : xMi l D o cA yX0_flush cX0_flush 3 (some .int) 3 [.ref (o 0)] S ((xFlF 8 0 (S, 0)).1) (nI (xFlF 8 0 (S, 0)).2) := by
  intro sz
  refine x_met (by decide) rfl (Nat.le_of_ble_eq_true rfl) ?_
  intro P0 e s m below meth c ls hsz hx hb hml hr hlocks hown hts hl hw
  subst hsz
  have hl : lv_has ls 3 [(0, .ref (o 0))] := hl
  have loop : ∀ (n k : Nat), n + k = 8 → ∀ (S' : SX) (t : Nat) (H : Heap) (locs : List Loc) (ls : Array Slot), lv_has ls 3 [(2, .int (nI k)), (1, .int (nI t)), (0, .ref (o 0))] → xW D o cA (xA o s.heap.size) s s.heap S' H locs → t ≤ k → okB S' → xFlF n k (S', t) = xFlF 8 0 (S, 0) → W P0 l e (rmD 3) s m ([.ref (o 0)]).toArray below meth c H locs 0 0 (MQ below (xQi D o cA s.heap.size ((xFlF 8 0 (S, 0)).1) (nI (xFlF 8 0 (S, 0)).2)) ([.ref (o 0)]).toArray s 0 0 (xA o s.heap.size)) (F0 m 4 ls []) := by
    intro n
    induction n with
    | zero =>
      intro k hk S' t H locs ls hl hw ht hok hf
      obtain rfl : k = 8 := by omega
      refine lv_iload_n hx hb dX0_flush_4 rfl (lv_at hl 0 rfl) ?_
      refine lv_bipush (v := 8) hx hb dX0_flush_5 (by decide) ?_
      refine lv_icmp_ge (tgt := 27) hx hb dX0_flush_7 (by decide) (fun _ => ?_) (fun h9 => absurd (by decide) h9)
      refine lv_iload_n hx hb dX0_flush_27 rfl (lv_at hl 1 rfl) ?_
      exact x_reti hx hb hr hlocks hw ⟨by rw [← hf]; rfl, by rw [← hf]; rfl⟩ dX0_flush_28
    | succ n ih =>
      intro k hk S' t H locs ls hl hw ht hok hf
      refine lv_iload_n hx hb dX0_flush_4 rfl (lv_at hl 0 rfl) ?_
      refine lv_bipush (v := 8) hx hb dX0_flush_5 (by decide) ?_
      refine lv_icmp_ge (tgt := 27) hx hb dX0_flush_7 (by decide) (fun h9 => absurd h9 (nI_ge (a := k) (b := 8) (by omega) (by decide))) (fun _ => ?_)
      obtain ⟨c9, hc9, hB9⟩ := hok k (by omega)
      refine lv_aload_n hx hb dX0_flush_10 rfl (lv_at hl 2 rfl) ?_
      refine lv_iload_n hx hb dX0_flush_11 rfl (lv_at hl 0 rfl) ?_
      refine x_ci (rest := []) ⟨hx, hb, hml, hown, hts⟩ (cx_emptyLine l D o cA S' k c9 (by omega) hc9 hB9) (cwx_emptyLine hts ⟨by decide, by decide⟩) hw rfl hl.1 rfl (Nat.le_of_ble_eq_true rfl) dX0_flush_12 ⟨Nat.zero_le _, Nat.zero_le _⟩ (fun H locs hw => ?_)
      refine lv_if_eq (tgt := 21) hx hb dX0_flush_15 (by decide) (fun g1 => ?_) (fun g1 => ?_)
      · have g1 := bI_z.mp g1
        refine lv_iinc (k := 0) (v := nI (k + 1)) (lv' := [(2, .int (nI (k + 1))), (1, .int (nI t)), (0, .ref (o 0))]) hx hb dX0_flush_21 hl rfl (lw_inc k 1) (by decide) rfl (fun ls hl => ?_)
        refine lv_goto (tgt := 4) hx hb dX0_flush_24 (by decide) ?_
        exact ih (k + 1) (by omega) _ _ _ _ _ (lv_sub hl [0, 1, 2] rfl) hw (by omega) (fun i hi => by rw [xEm_1]; exact hok i hi) (by rw [← hf]; simp [xFlF, g1])
      · have g1 := bI_n.mp g1
        refine lv_iinc (k := 1) (v := nI (t + 1)) (lv' := [(1, .int (nI (t + 1))), (2, .int (nI k)), (0, .ref (o 0))]) hx hb dX0_flush_18 hl rfl (lw_inc t 1) (by decide) rfl (fun ls hl => ?_)
        refine lv_iinc (k := 1) (v := nI (k + 1)) (lv' := [(2, .int (nI (k + 1))), (1, .int (nI (t + 1))), (0, .ref (o 0))]) hx hb dX0_flush_21 hl rfl (lw_inc k 1) (by decide) rfl (fun ls hl => ?_)
        refine lv_goto (tgt := 4) hx hb dX0_flush_24 (by decide) ?_
        exact ih (k + 1) (by omega) _ _ _ _ _ (lv_sub hl [0, 1, 2] rfl) hw (by omega) (fun i hi => by rw [xEm_1]; exact hok i hi) (by rw [← hf]; simp [xFlF, g1])
  refine lv_iconst (v := 0) hx hb dX0_flush_0 (by decide) ?_
  refine lv_istore_n (lv' := [(1, .int 0), (0, .ref (o 0))]) hx hb dX0_flush_1 rfl hl (by decide) rfl (fun ls hl => ?_)
  refine lv_iconst (v := 0) hx hb dX0_flush_2 (by decide) ?_
  refine lv_istore_n (lv' := [(2, .int 0), (1, .int 0), (0, .ref (o 0))]) hx hb dX0_flush_3 rfl hl (by decide) rfl (fun ls hl => ?_)
  exact loop 8 0 rfl _ 0 _ _ _ (lv_sub hl [0, 1, 2] rfl) hw (by omega) hok rfl
set_option maxRecDepth 100000 in
set_option maxHeartbeats 4000000 in
theorem cx_state (l : Launch) (D : va_G) (o : Nat → Nat) (cA : ClassId) (S : SX) (x y : Int32)  : xMi l D o cA yX0_state cX0_state 3 (some .int) 2 [.ref (o 0), .int x, .int y] S (S) (xStV S x y) := by
  intro sz
  refine x_met (by decide) rfl (Nat.le_of_ble_eq_true rfl) ?_
  intro P0 e s m below meth c ls hsz hx hb hml hr hlocks hown hts hl hw
  subst hsz
  have hl : lv_has ls 3 [(0, .ref (o 0)), (1, .int x), (2, .int y)] := hl
  refine lv_iload_n hx hb dX0_state_0 rfl (lv_at hl 1 rfl) ?_
  refine x_cs (rest := []) ⟨hx, hb, hml, hown, hts⟩ (cx_isProcessor l x) (cwx_isProcessor hts ⟨by decide, by decide⟩) hw rfl hl.1 rfl (Nat.le_of_ble_eq_true rfl) dX0_state_1 ⟨Nat.zero_le _, Nat.zero_le _⟩ (fun H locs hw => ?_)
  refine lv_if_eq (tgt := 14) hx hb dX0_state_4 (by decide) (fun g1 => ?_) (fun g1 => ?_)
  · have g1 := bI_z.mp g1
    refine lv_iconst (v := -1) hx hb dX0_state_14 (by decide) ?_
    exact x_reti hx hb hr hlocks hw ⟨by simp [xStV, g1], rfl⟩ dX0_state_15
  · have g1 := bI_n.mp g1
    refine lv_iload_n hx hb dX0_state_7 rfl (lv_at hl 2 rfl) ?_
    refine x_cs (rest := []) ⟨hx, hb, hml, hown, hts⟩ (cx_isBlock l y) (cwx_isBlock hts ⟨by decide, by decide⟩) hw rfl hl.1 rfl (Nat.le_of_ble_eq_true rfl) dX0_state_8 ⟨Nat.zero_le _, Nat.zero_le _⟩ (fun H locs hw => ?_)
    refine lv_if_ne (tgt := 16) hx hb dX0_state_11 (by decide) (fun g2 => ?_) (fun g2 => ?_)
    · have g2 := bI_n.mp g2
      obtain ⟨u, hu, rfl⟩ := inR_of (n := 4) (by decide) g1
      obtain ⟨v, hv, rfl⟩ := inR_of (n := 16) (by decide) g2
      refine lv_aload_n hx hb dX0_state_16 rfl (lv_at hl 0 rfl) ?_
      refine lv_iload_n hx hb dX0_state_17 rfl (lv_at hl 1 rfl) ?_
      refine lv_iload_n hx hb dX0_state_18 rfl (lv_at hl 2 rfl) ?_
      refine x_ci (rest := []) ⟨hx, hb, hml, hown, hts⟩ (cx_holds l D o cA S u v (by omega) (by omega)) (cwx_holds hts ⟨by decide, by decide⟩) hw rfl hl.1 rfl (Nat.le_of_ble_eq_true rfl) dX0_state_19 ⟨Nat.zero_le _, Nat.zero_le _⟩ (fun H locs hw => ?_)
      refine lv_if_eq (tgt := 38) hx hb dX0_state_22 (by decide) (fun g3 => ?_) (fun g3 => ?_)
      · have g3 := bI_z.mp g3
        refine lv_iconst (v := 0) hx hb dX0_state_38 (by decide) ?_
        exact x_reti hx hb hr hlocks hw ⟨by simp [xStV, nI_clamp (show u < 2 ^ 31 by omega), nI_clamp (show v < 2 ^ 31 by omega), g1, g2, g3], rfl⟩ dX0_state_39
      · have g3 := bI_n.mp g3
        refine lv_aload_n hx hb dX0_state_25 rfl (lv_at hl 0 rfl) ?_
        refine x_g0 hx hb hts hown hw dX0_state_26 ?_
        refine lv_iload_n hx hb dX0_state_29 rfl (lv_at hl 1 rfl) ?_
        refine lv_iload_n hx hb dX0_state_30 rfl (lv_at hl 2 rfl) ?_
        refine x_cs (rest := [.ref (o 1)]) ⟨hx, hb, hml, hown, hts⟩ (cx_lineFor l u v (by omega) (by omega)) (cwx_lineFor hts ⟨by decide, by decide⟩) hw rfl hl.1 rfl (Nat.le_of_ble_eq_true rfl) dX0_state_31 ⟨Nat.zero_le _, Nat.zero_le _⟩ (fun H locs hw => ?_)
        refine x_l0 (n := 2 * u + v % 2) hx hb hw (by omega) dX0_state_34 ?_
        refine lv_goto (tgt := 39) hx hb dX0_state_35 (by decide) ?_
        exact x_reti hx hb hr hlocks hw ⟨by simp [xStV, nI_clamp (show u < 2 ^ 31 by omega), nI_clamp (show v < 2 ^ 31 by omega), g1, g2, g3], rfl⟩ dX0_state_39
    · have g2 := bI_z.mp g2
      refine lv_iconst (v := -1) hx hb dX0_state_14 (by decide) ?_
      exact x_reti hx hb hr hlocks hw ⟨by simp [xStV, g1, g2], rfl⟩ dX0_state_15
set_option maxRecDepth 100000 in
set_option maxHeartbeats 4000000 in
theorem cx_cached (l : Launch) (D : va_G) (o : Nat → Nat) (cA : ClassId) (S : SX) (x y : Int32)  : xMi l D o cA yX0_cached cX0_cached 3 (some .int) 2 [.ref (o 0), .int x, .int y] S (S) (xCaV S x y) := by
  intro sz
  refine x_met (by decide) rfl (Nat.le_of_ble_eq_true rfl) ?_
  intro P0 e s m below meth c ls hsz hx hb hml hr hlocks hown hts hl hw
  subst hsz
  have hl : lv_has ls 3 [(0, .ref (o 0)), (1, .int x), (2, .int y)] := hl
  refine lv_iload_n hx hb dX0_cached_0 rfl (lv_at hl 1 rfl) ?_
  refine x_cs (rest := []) ⟨hx, hb, hml, hown, hts⟩ (cx_isProcessor l x) (cwx_isProcessor hts ⟨by decide, by decide⟩) hw rfl hl.1 rfl (Nat.le_of_ble_eq_true rfl) dX0_cached_1 ⟨Nat.zero_le _, Nat.zero_le _⟩ (fun H locs hw => ?_)
  refine lv_if_eq (tgt := 26) hx hb dX0_cached_4 (by decide) (fun g1 => ?_) (fun g1 => ?_)
  · have g1 := bI_z.mp g1
    refine lv_iconst (v := 0) hx hb dX0_cached_26 (by decide) ?_
    exact x_reti hx hb hr hlocks hw ⟨by simp [xCaV, g1], rfl⟩ dX0_cached_27
  · have g1 := bI_n.mp g1
    refine lv_iload_n hx hb dX0_cached_7 rfl (lv_at hl 2 rfl) ?_
    refine x_cs (rest := []) ⟨hx, hb, hml, hown, hts⟩ (cx_isAddress l y) (cwx_isAddress hts ⟨by decide, by decide⟩) hw rfl hl.1 rfl (Nat.le_of_ble_eq_true rfl) dX0_cached_8 ⟨Nat.zero_le _, Nat.zero_le _⟩ (fun H locs hw => ?_)
    refine lv_if_eq (tgt := 26) hx hb dX0_cached_11 (by decide) (fun g2 => ?_) (fun g2 => ?_)
    · have g2 := bI_z.mp g2
      refine lv_iconst (v := 0) hx hb dX0_cached_26 (by decide) ?_
      exact x_reti hx hb hr hlocks hw ⟨by simp [xCaV, g1, g2], rfl⟩ dX0_cached_27
    · have g2 := bI_n.mp g2
      obtain ⟨u, hu, rfl⟩ := inR_of (n := 4) (by decide) g1
      obtain ⟨v, hv, rfl⟩ := inR_of (n := 32) (by decide) g2
      refine lv_aload_n hx hb dX0_cached_14 rfl (lv_at hl 0 rfl) ?_
      refine lv_iload_n hx hb dX0_cached_15 rfl (lv_at hl 1 rfl) ?_
      refine lv_iload_n hx hb dX0_cached_16 rfl (lv_at hl 2 rfl) ?_
      refine x_cs (rest := [.int (nI u), .ref (o 0)]) ⟨hx, hb, hml, hown, hts⟩ (cx_blockOf l v (by omega)) (cwx_blockOf hts ⟨by decide, by decide⟩) hw rfl hl.1 rfl (Nat.le_of_ble_eq_true rfl) dX0_cached_17 ⟨Nat.zero_le _, Nat.zero_le _⟩ (fun H locs hw => ?_)
      refine x_ci (rest := []) ⟨hx, hb, hml, hown, hts⟩ (cx_holds l D o cA S u (v / 2) (by omega) (by omega)) (cwx_holds hts ⟨by decide, by decide⟩) hw rfl hl.1 rfl (Nat.le_of_ble_eq_true rfl) dX0_cached_20 ⟨Nat.zero_le _, Nat.zero_le _⟩ (fun H locs hw => ?_)
      refine lv_if_ne (tgt := 28) hx hb dX0_cached_23 (by decide) (fun g3 => ?_) (fun g3 => ?_)
      · have g3 := bI_n.mp g3
        refine lv_aload_n hx hb dX0_cached_28 rfl (lv_at hl 0 rfl) ?_
        refine x_g2 hx hb hts hown hw dX0_cached_29 ?_
        refine lv_iload_n hx hb dX0_cached_32 rfl (lv_at hl 1 rfl) ?_
        refine lv_iload_n hx hb dX0_cached_33 rfl (lv_at hl 2 rfl) ?_
        refine x_cs (rest := [.ref (o 3)]) ⟨hx, hb, hml, hown, hts⟩ (cx_wordIndex l u v (by omega) (by omega)) (cwx_wordIndex hts ⟨by decide, by decide⟩) hw rfl hl.1 rfl (Nat.le_of_ble_eq_true rfl) dX0_cached_34 ⟨Nat.zero_le _, Nat.zero_le _⟩ (fun H locs hw => ?_)
        refine x_l2 (n := 2 * (2 * u + v / 2 % 2) + v % 2) hx hb hw (by omega) dX0_cached_37 ?_
        exact x_reti hx hb hr hlocks hw ⟨by simp [xCaV, nI_clamp (show u < 2 ^ 31 by omega), nI_clamp (show v < 2 ^ 31 by omega), g1, g2, g3], rfl⟩ dX0_cached_38
      · have g3 := bI_z.mp g3
        refine lv_iconst (v := 0) hx hb dX0_cached_26 (by decide) ?_
        exact x_reti hx hb hr hlocks hw ⟨by simp [xCaV, nI_clamp (show u < 2 ^ 31 by omega), nI_clamp (show v < 2 ^ 31 by omega), g1, g2, g3], rfl⟩ dX0_cached_27
set_option maxRecDepth 100000 in
set_option maxHeartbeats 4000000 in
theorem cx_memory (l : Launch) (D : va_G) (o : Nat → Nat) (cA : ClassId) (S : SX) (x : Int32)  : xMi l D o cA yX0_memory cX0_memory 2 (some .int) 1 [.ref (o 0), .int x] S (S) (xMeV S x) := by
  intro sz
  refine x_met (by decide) rfl (Nat.le_of_ble_eq_true rfl) ?_
  intro P0 e s m below meth c ls hsz hx hb hml hr hlocks hown hts hl hw
  subst hsz
  have hl : lv_has ls 2 [(0, .ref (o 0)), (1, .int x)] := hl
  refine lv_iload_n hx hb dX0_memory_0 rfl (lv_at hl 1 rfl) ?_
  refine x_cs (rest := []) ⟨hx, hb, hml, hown, hts⟩ (cx_isAddress l x) (cwx_isAddress hts ⟨by decide, by decide⟩) hw rfl hl.1 rfl (Nat.le_of_ble_eq_true rfl) dX0_memory_1 ⟨Nat.zero_le _, Nat.zero_le _⟩ (fun H locs hw => ?_)
  refine lv_if_eq (tgt := 16) hx hb dX0_memory_4 (by decide) (fun g1 => ?_) (fun g1 => ?_)
  · have g1 := bI_z.mp g1
    refine lv_iconst (v := 0) hx hb dX0_memory_16 (by decide) ?_
    exact x_reti hx hb hr hlocks hw ⟨by simp [xMeV, g1], rfl⟩ dX0_memory_17
  · have g1 := bI_n.mp g1
    obtain ⟨u, hu, rfl⟩ := inR_of (n := 32) (by decide) g1
    refine lv_aload_n hx hb dX0_memory_7 rfl (lv_at hl 0 rfl) ?_
    refine x_g3 hx hb hts hown hw dX0_memory_8 ?_
    refine lv_iload_n hx hb dX0_memory_11 rfl (lv_at hl 1 rfl) ?_
    refine x_l3 (n := u) hx hb hw (by omega) dX0_memory_12 ?_
    refine lv_goto (tgt := 17) hx hb dX0_memory_13 (by decide) ?_
    exact x_reti hx hb hr hlocks hw ⟨by simp [xMeV, nI_clamp (show u < 2 ^ 31 by omega), g1], rfl⟩ dX0_memory_17
set_option maxRecDepth 100000 in
set_option maxHeartbeats 4000000 in
theorem cx_count (l : Launch) (D : va_G) (o : Nat → Nat) (cA : ClassId) (S : SX) (x : Int32)  : xMi l D o cA yX0_count cX0_count 2 (some .int) 1 [.ref (o 0), .int x] S (S) (xCoV S x) := by
  intro sz
  refine x_met (by decide) rfl (Nat.le_of_ble_eq_true rfl) ?_
  intro P0 e s m below meth c ls hsz hx hb hml hr hlocks hown hts hl hw
  subst hsz
  have hl : lv_has ls 2 [(0, .ref (o 0)), (1, .int x)] := hl
  refine lv_iload_n hx hb dX0_count_0 rfl (lv_at hl 1 rfl) ?_
  refine lv_if_lt (tgt := 18) hx hb dX0_count_1 (by decide) (fun g1 => ?_) (fun g1 => ?_)
  · refine lv_iconst (v := -1) hx hb dX0_count_18 (by decide) ?_
    exact x_reti hx hb hr hlocks hw ⟨by simp [xCoV, inR, g1], rfl⟩ dX0_count_19
  · refine lv_iload_n hx hb dX0_count_4 rfl (lv_at hl 1 rfl) ?_
    refine lv_iconst (v := 5) hx hb dX0_count_5 (by decide) ?_
    refine lv_icmp_ge (tgt := 18) hx hb dX0_count_6 (by decide) (fun g2 => ?_) (fun g2 => ?_)
    · refine lv_iconst (v := -1) hx hb dX0_count_18 (by decide) ?_
      exact x_reti hx hb hr hlocks hw ⟨by simp [xCoV, inR, g1, g2], rfl⟩ dX0_count_19
    · obtain ⟨u, hu, rfl⟩ := inR_of2 (n := 5) (by decide) g1 g2
      refine lv_aload_n hx hb dX0_count_9 rfl (lv_at hl 0 rfl) ?_
      refine x_g4 hx hb hts hown hw dX0_count_10 ?_
      refine lv_iload_n hx hb dX0_count_13 rfl (lv_at hl 1 rfl) ?_
      refine x_l4 (n := u) hx hb hw (by omega) dX0_count_14 ?_
      refine lv_goto (tgt := 19) hx hb dX0_count_15 (by decide) ?_
      exact x_reti hx hb hr hlocks hw ⟨by simp [xCoV, nI_clamp (show u < 2 ^ 31 by omega), inR, g1, g2], rfl⟩ dX0_count_19
set_option maxRecDepth 100000 in
set_option maxHeartbeats 4000000 in
theorem cx_latest (l : Launch) (D : va_G) (o : Nat → Nat) (cA : ClassId) (S : SX) (x : Int32)  : xMi l D o cA yX0_latest cX0_latest 2 (some .int) 1 [.ref (o 0), .int x] S (S) (xLaV S x) := by
  intro sz
  refine x_met (by decide) rfl (Nat.le_of_ble_eq_true rfl) ?_
  intro P0 e s m below meth c ls hsz hx hb hml hr hlocks hown hts hl hw
  subst hsz
  have hl : lv_has ls 2 [(0, .ref (o 0)), (1, .int x)] := hl
  refine lv_iload_n hx hb dX0_latest_0 rfl (lv_at hl 1 rfl) ?_
  refine lv_if_lt (tgt := 19) hx hb dX0_latest_1 (by decide) (fun g1 => ?_) (fun g1 => ?_)
  · refine lv_iconst (v := -1) hx hb dX0_latest_19 (by decide) ?_
    exact x_reti hx hb hr hlocks hw ⟨by simp [xLaV, inR, g1], rfl⟩ dX0_latest_20
  · refine lv_iload_n hx hb dX0_latest_4 rfl (lv_at hl 1 rfl) ?_
    refine lv_bipush (v := 8) hx hb dX0_latest_5 (by decide) ?_
    refine lv_icmp_ge (tgt := 19) hx hb dX0_latest_7 (by decide) (fun g2 => ?_) (fun g2 => ?_)
    · refine lv_iconst (v := -1) hx hb dX0_latest_19 (by decide) ?_
      exact x_reti hx hb hr hlocks hw ⟨by simp [xLaV, inR, g1, g2], rfl⟩ dX0_latest_20
    · obtain ⟨u, hu, rfl⟩ := inR_of2 (n := 8) (by decide) g1 g2
      refine lv_aload_n hx hb dX0_latest_10 rfl (lv_at hl 0 rfl) ?_
      refine x_g5 hx hb hts hown hw dX0_latest_11 ?_
      refine lv_iload_n hx hb dX0_latest_14 rfl (lv_at hl 1 rfl) ?_
      refine x_l5 (n := u) hx hb hw (by omega) dX0_latest_15 ?_
      refine lv_goto (tgt := 20) hx hb dX0_latest_16 (by decide) ?_
      exact x_reti hx hb hr hlocks hw ⟨by simp [xLaV, nI_clamp (show u < 2 ^ 31 by omega), inR, g1, g2], rfl⟩ dX0_latest_20
set_option maxRecDepth 100000 in
set_option maxHeartbeats 4000000 in
theorem cx_read (l : Launch) (D : va_G) (o : Nat → Nat) (cA : ClassId) (S : SX) (u a : Nat) (hu : u < 4) (ha : a < 32) (hok : okB S) : xMi l D o cA yX0_read cX0_read 3 (some .int) 6 [.ref (o 0), .int (nI u), .int (nI a)] S (xBr S u (a / 2) 0) ((xBr S u (a / 2) 0).1 2 (2 * (2 * u + a / 2 % 2) + a % 2)) := by
  intro sz
  refine x_met (by decide) rfl (Nat.le_of_ble_eq_true rfl) ?_
  intro P0 e s m below meth c ls hsz hx hb hml hr hlocks hown hts hl hw
  subst hsz
  have hl : lv_has ls 3 [(0, .ref (o 0)), (1, .int (nI u)), (2, .int (nI a))] := hl
  refine lv_iload_n hx hb dX0_read_0 rfl (lv_at hl 1 rfl) ?_
  refine x_cs (rest := []) ⟨hx, hb, hml, hown, hts⟩ (cx_isProcessor l (nI u)) (cwx_isProcessor hts ⟨by decide, by decide⟩) hw rfl hl.1 rfl (Nat.le_of_ble_eq_true rfl) dX0_read_1 ⟨Nat.zero_le _, Nat.zero_le _⟩ (fun H locs hw => ?_)
  refine lv_if_eq (tgt := 14) hx hb dX0_read_4 (by decide) (fun h9 => absurd h9 (bI_n.mpr (inR_t (n := 4) hu (by decide)))) (fun _ => ?_)
  refine lv_iload_n hx hb dX0_read_7 rfl (lv_at hl 2 rfl) ?_
  refine x_cs (rest := []) ⟨hx, hb, hml, hown, hts⟩ (cx_isAddress l (nI a)) (cwx_isAddress hts ⟨by decide, by decide⟩) hw rfl hl.1 rfl (Nat.le_of_ble_eq_true rfl) dX0_read_8 ⟨Nat.zero_le _, Nat.zero_le _⟩ (fun H locs hw => ?_)
  refine lv_if_ne (tgt := 24) hx hb dX0_read_11 (by decide) (fun _ => ?_) (fun h9 => absurd h9 (bI_n.mpr (inR_t (n := 32) ha (by decide))))
  refine lv_aload_n hx hb dX0_read_24 rfl (lv_at hl 0 rfl) ?_
  refine lv_iload_n hx hb dX0_read_25 rfl (lv_at hl 1 rfl) ?_
  refine lv_iload_n hx hb dX0_read_26 rfl (lv_at hl 2 rfl) ?_
  refine x_cs (rest := [.int (nI u), .ref (o 0)]) ⟨hx, hb, hml, hown, hts⟩ (cx_blockOf l a (by omega)) (cwx_blockOf hts ⟨by decide, by decide⟩) hw rfl hl.1 rfl (Nat.le_of_ble_eq_true rfl) dX0_read_27 ⟨Nat.zero_le _, Nat.zero_le _⟩ (fun H locs hw => ?_)
  refine lv_iconst (v := 0) hx hb dX0_read_30 (by decide) ?_
  refine x_cv (rest := []) ⟨hx, hb, hml, hown, hts⟩ (cx_bringIn l D o cA S u (a / 2) 0 (by omega) (by omega) (by omega) hok) (cwx_bringIn hts ⟨by decide, by decide⟩) hw rfl hl.1 rfl (Nat.le_of_ble_eq_true rfl) dX0_read_31 ⟨Nat.zero_le _, Nat.zero_le _⟩ (fun H locs hw => ?_)
  refine lv_aload_n hx hb dX0_read_34 rfl (lv_at hl 0 rfl) ?_
  refine x_g2 hx hb hts hown hw dX0_read_35 ?_
  refine lv_iload_n hx hb dX0_read_38 rfl (lv_at hl 1 rfl) ?_
  refine lv_iload_n hx hb dX0_read_39 rfl (lv_at hl 2 rfl) ?_
  refine x_cs (rest := [.ref (o 3)]) ⟨hx, hb, hml, hown, hts⟩ (cx_wordIndex l u a (by omega) (by omega)) (cwx_wordIndex hts ⟨by decide, by decide⟩) hw rfl hl.1 rfl (Nat.le_of_ble_eq_true rfl) dX0_read_40 ⟨Nat.zero_le _, Nat.zero_le _⟩ (fun H locs hw => ?_)
  refine x_l2 (n := 2 * (2 * u + a / 2 % 2) + a % 2) hx hb hw (by omega) dX0_read_43 ?_
  exact x_reti hx hb hr hlocks hw ⟨rfl, rfl⟩ dX0_read_44
set_option maxRecDepth 100000 in
set_option maxHeartbeats 4000000 in
theorem cx_write (l : Launch) (D : va_G) (o : Nat → Nat) (cA : ClassId) (S : SX) (u a : Nat) (w : Int32) (hu : u < 4) (ha : a < 32) (hok : okB S) : xMi l D o cA yX0_write cX0_write 5 (some .int) 6 [.ref (o 0), .int (nI u), .int (nI a), .int w] S (xWr S u a w) ((xWr S u a w).2 1 - S.2 1) := by
  intro sz
  refine x_met (by decide) rfl (Nat.le_of_ble_eq_true rfl) ?_
  intro P0 e s m below meth c ls hsz hx hb hml hr hlocks hown hts hl hw
  subst hsz
  have hl : lv_has ls 5 [(0, .ref (o 0)), (1, .int (nI u)), (2, .int (nI a)), (3, .int w)] := hl
  have fin : ∀ (H : Heap) (locs : List Loc) (ls : Array Slot), lv_has ls 5 [(4, .int (S.2 1)), (0, .ref (o 0)), (1, .int (nI u)), (2, .int (nI a)), (3, .int w)] → xW D o cA (xA o s.heap.size) s s.heap (xWrT S u a w) H locs → W P0 l e (rmD 6) s m ([.ref (o 0), .int (nI u), .int (nI a), .int w]).toArray below meth c H locs 0 0 (MQ below (xQi D o cA s.heap.size (xWr S u a w) ((xWr S u a w).2 1 - S.2 1)) ([.ref (o 0), .int (nI u), .int (nI a), .int w]).toArray s 0 0 (xA o s.heap.size)) (F0 m 77 ls []) := by
    intro H locs ls hl hw
    refine lv_aload_n hx hb dX0_write_77 rfl (lv_at hl 1 rfl) ?_
    refine x_g2 hx hb hts hown hw dX0_write_78 ?_
    refine lv_iload_n hx hb dX0_write_81 rfl (lv_at hl 2 rfl) ?_
    refine lv_iload_n hx hb dX0_write_82 rfl (lv_at hl 3 rfl) ?_
    refine x_cs (rest := [.ref (o 3)]) ⟨hx, hb, hml, hown, hts⟩ (cx_wordIndex l u a (by omega) (by omega)) (cwx_wordIndex hts ⟨by decide, by decide⟩) hw rfl hl.1 rfl (Nat.le_of_ble_eq_true rfl) dX0_write_83 ⟨Nat.zero_le _, Nat.zero_le _⟩ (fun H locs hw => ?_)
    refine lv_iload_n hx hb dX0_write_86 rfl (lv_at hl 4 rfl) ?_
    refine x_s2 (n := 2 * (2 * u + a / 2 % 2) + a % 2) (x := w) hx hb hw (by omega) dX0_write_87 (fun H locs hw => ?_)
    refine lv_aload_n hx hb dX0_write_88 rfl (lv_at hl 1 rfl) ?_
    refine x_f1 hx hb hts hown hw dX0_write_89 ?_
    refine lv_iload hx hb dX0_write_92 (lv_at hl 0 rfl) ?_
    refine lv_isub hx hb dX0_write_94 ?_
    exact x_reti hx hb hr hlocks hw ⟨rfl, rfl⟩ dX0_write_95
  have mid : ∀ (H : Heap) (locs : List Loc) (ls : Array Slot), lv_has ls 5 [(4, .int (S.2 1)), (0, .ref (o 0)), (1, .int (nI u)), (2, .int (nI a)), (3, .int w)] → xW D o cA (xA o s.heap.size) s s.heap (xWrB S u a) H locs → W P0 l e (rmD 6) s m ([.ref (o 0), .int (nI u), .int (nI a), .int w]).toArray below meth c H locs 0 0 (MQ below (xQi D o cA s.heap.size (xWr S u a w) ((xWr S u a w).2 1 - S.2 1)) ([.ref (o 0), .int (nI u), .int (nI a), .int w]).toArray s 0 0 (xA o s.heap.size)) (F0 m 51 ls []) := by
    intro H locs ls hl hw
    refine lv_aload_n hx hb dX0_write_51 rfl (lv_at hl 1 rfl) ?_
    refine x_ci (rest := []) ⟨hx, hb, hml, hown, hts⟩ (cx_updates l D o cA (xWrB S u a)) (cwx_updates hts ⟨by decide, by decide⟩) hw rfl hl.1 rfl (Nat.le_of_ble_eq_true rfl) dX0_write_52 ⟨Nat.zero_le _, Nat.zero_le _⟩ (fun H locs hw => ?_)
    refine lv_if_eq (tgt := 68) hx hb dX0_write_55 (by decide) (fun g1 => ?_) (fun g1 => ?_)
    · have g1 := bI_z.mp g1
      refine lv_aload_n hx hb dX0_write_68 rfl (lv_at hl 1 rfl) ?_
      refine lv_iload_n hx hb dX0_write_69 rfl (lv_at hl 2 rfl) ?_
      refine lv_iload_n hx hb dX0_write_70 rfl (lv_at hl 3 rfl) ?_
      refine x_cs (rest := [.int (nI u), .ref (o 0)]) ⟨hx, hb, hml, hown, hts⟩ (cx_blockOf l a (by omega)) (cwx_blockOf hts ⟨by decide, by decide⟩) hw rfl hl.1 rfl (Nat.le_of_ble_eq_true rfl) dX0_write_71 ⟨Nat.zero_le _, Nat.zero_le _⟩ (fun H locs hw => ?_)
      refine x_cv (rest := []) ⟨hx, hb, hml, hown, hts⟩ (cx_claim l D o cA (xWrB S u a) u (a / 2) (by omega) (by omega)) (cwx_claim hts ⟨by decide, by decide⟩) hw rfl hl.1 rfl (Nat.le_of_ble_eq_true rfl) dX0_write_74 ⟨Nat.zero_le _, Nat.zero_le _⟩ (fun H locs hw => ?_)
      exact fin _ _ _ hl (by rw [xWrT, if_neg (by simpa using g1)]; exact hw)
    · have g1 := bI_n.mp g1
      refine lv_aload_n hx hb dX0_write_58 rfl (lv_at hl 1 rfl) ?_
      refine lv_iload_n hx hb dX0_write_59 rfl (lv_at hl 2 rfl) ?_
      refine lv_iload_n hx hb dX0_write_60 rfl (lv_at hl 3 rfl) ?_
      refine lv_iload_n hx hb dX0_write_61 rfl (lv_at hl 4 rfl) ?_
      refine x_cv (rest := []) ⟨hx, hb, hml, hown, hts⟩ (cx_tellOthers l D o cA (xWrB S u a) u a w (by omega) (by omega)) (cwx_tellOthers hts ⟨by decide, by decide⟩) hw rfl hl.1 rfl (Nat.le_of_ble_eq_true rfl) dX0_write_62 ⟨Nat.zero_le _, Nat.zero_le _⟩ (fun H locs hw => ?_)
      refine lv_goto (tgt := 77) hx hb dX0_write_65 (by decide) ?_
      exact fin _ _ _ hl (by rw [xWrT, if_pos (by simpa using g1)]; exact hw)
  refine lv_iload_n hx hb dX0_write_0 rfl (lv_at hl 1 rfl) ?_
  refine x_cs (rest := []) ⟨hx, hb, hml, hown, hts⟩ (cx_isProcessor l (nI u)) (cwx_isProcessor hts ⟨by decide, by decide⟩) hw rfl hl.1 rfl (Nat.le_of_ble_eq_true rfl) dX0_write_1 ⟨Nat.zero_le _, Nat.zero_le _⟩ (fun H locs hw => ?_)
  refine lv_if_eq (tgt := 14) hx hb dX0_write_4 (by decide) (fun h9 => absurd h9 (bI_n.mpr (inR_t (n := 4) hu (by decide)))) (fun _ => ?_)
  refine lv_iload_n hx hb dX0_write_7 rfl (lv_at hl 2 rfl) ?_
  refine x_cs (rest := []) ⟨hx, hb, hml, hown, hts⟩ (cx_isAddress l (nI a)) (cwx_isAddress hts ⟨by decide, by decide⟩) hw rfl hl.1 rfl (Nat.le_of_ble_eq_true rfl) dX0_write_8 ⟨Nat.zero_le _, Nat.zero_le _⟩ (fun H locs hw => ?_)
  refine lv_if_ne (tgt := 24) hx hb dX0_write_11 (by decide) (fun _ => ?_) (fun h9 => absurd h9 (bI_n.mpr (inR_t (n := 32) ha (by decide))))
  refine lv_aload_n hx hb dX0_write_24 rfl (lv_at hl 0 rfl) ?_
  refine x_f1 hx hb hts hown hw dX0_write_25 ?_
  refine lv_istore (lv' := [(4, .int (S.2 1)), (0, .ref (o 0)), (1, .int (nI u)), (2, .int (nI a)), (3, .int w)]) hx hb dX0_write_28 hl (by decide) rfl (fun ls hl => ?_)
  refine lv_aload_n hx hb dX0_write_30 rfl (lv_at hl 1 rfl) ?_
  refine lv_iload_n hx hb dX0_write_31 rfl (lv_at hl 2 rfl) ?_
  refine lv_iload_n hx hb dX0_write_32 rfl (lv_at hl 3 rfl) ?_
  refine x_cs (rest := [.int (nI u), .ref (o 0)]) ⟨hx, hb, hml, hown, hts⟩ (cx_blockOf l a (by omega)) (cwx_blockOf hts ⟨by decide, by decide⟩) hw rfl hl.1 rfl (Nat.le_of_ble_eq_true rfl) dX0_write_33 ⟨Nat.zero_le _, Nat.zero_le _⟩ (fun H locs hw => ?_)
  refine lv_aload_n hx hb dX0_write_36 rfl (lv_at hl 1 rfl) ?_
  refine x_ci (rest := [.int (nI (a / 2)), .int (nI u), .ref (o 0)]) ⟨hx, hb, hml, hown, hts⟩ (cx_updates l D o cA S) (cwx_updates hts ⟨by decide, by decide⟩) hw rfl hl.1 rfl (Nat.le_of_ble_eq_true rfl) dX0_write_37 ⟨Nat.zero_le _, Nat.zero_le _⟩ (fun H locs hw => ?_)
  refine lv_if_eq (tgt := 47) hx hb dX0_write_40 (by decide) (fun g2 => ?_) (fun g2 => ?_)
  · have g2 := bI_z.mp g2
    refine lv_iconst (v := 1) hx hb dX0_write_47 (by decide) ?_
    refine x_cv (rest := []) ⟨hx, hb, hml, hown, hts⟩ (cx_bringIn l D o cA S u (a / 2) 1 (by omega) (by omega) (by omega) hok) (cwx_bringIn hts ⟨by decide, by decide⟩) hw rfl hl.1 rfl (Nat.le_of_ble_eq_true rfl) dX0_write_48 ⟨Nat.zero_le _, Nat.zero_le _⟩ (fun H locs hw => ?_)
    exact mid _ _ _ hl (by rw [xWrB, if_neg (by simpa using g2)]; exact hw)
  · have g2 := bI_n.mp g2
    refine lv_iconst (v := 0) hx hb dX0_write_43 (by decide) ?_
    refine lv_goto (tgt := 48) hx hb dX0_write_44 (by decide) ?_
    refine x_cv (rest := []) ⟨hx, hb, hml, hown, hts⟩ (cx_bringIn l D o cA S u (a / 2) 0 (by omega) (by omega) (by omega) hok) (cwx_bringIn hts ⟨by decide, by decide⟩) hw rfl hl.1 rfl (Nat.le_of_ble_eq_true rfl) dX0_write_48 ⟨Nat.zero_le _, Nat.zero_le _⟩ (fun H locs hw => ?_)
    exact mid _ _ _ hl (by rw [xWrB, if_pos (by simpa using g2)]; exact hw)
set_option maxRecDepth 100000 in
set_option maxHeartbeats 4000000 in
theorem cx_evict (l : Launch) (D : va_G) (o : Nat → Nat) (cA : ClassId) (S : SX) (u b : Nat) (hu : u < 4) (hbb : b < 16) (hok : okB S) (hh : xHo S u b = true) : xMi l D o cA yX0_evict cX0_evict 3 (some .boolean) 3 [.ref (o 0), .int (nI u), .int (nI b)] S (xEm S (2 * u + b % 2)) (bI (xDi (S.1 0 (2 * u + b % 2)))) := by
  intro sz
  refine x_met (by decide) rfl (Nat.le_of_ble_eq_true rfl) ?_
  intro P0 e s m below meth c ls hsz hx hb hml hr hlocks hown hts hl hw
  subst hsz
  have hl : lv_has ls 3 [(0, .ref (o 0)), (1, .int (nI u)), (2, .int (nI b))] := hl
  obtain ⟨c9, hc9, hB9⟩ := hok (2 * u + b % 2) (by omega)
  refine lv_iload_n hx hb dX0_evict_0 rfl (lv_at hl 1 rfl) ?_
  refine x_cs (rest := []) ⟨hx, hb, hml, hown, hts⟩ (cx_isProcessor l (nI u)) (cwx_isProcessor hts ⟨by decide, by decide⟩) hw rfl hl.1 rfl (Nat.le_of_ble_eq_true rfl) dX0_evict_1 ⟨Nat.zero_le _, Nat.zero_le _⟩ (fun H locs hw => ?_)
  refine lv_if_eq (tgt := 14) hx hb dX0_evict_4 (by decide) (fun h9 => absurd h9 (bI_n.mpr (inR_t (n := 4) hu (by decide)))) (fun _ => ?_)
  refine lv_iload_n hx hb dX0_evict_7 rfl (lv_at hl 2 rfl) ?_
  refine x_cs (rest := []) ⟨hx, hb, hml, hown, hts⟩ (cx_isBlock l (nI b)) (cwx_isBlock hts ⟨by decide, by decide⟩) hw rfl hl.1 rfl (Nat.le_of_ble_eq_true rfl) dX0_evict_8 ⟨Nat.zero_le _, Nat.zero_le _⟩ (fun H locs hw => ?_)
  refine lv_if_ne (tgt := 24) hx hb dX0_evict_11 (by decide) (fun _ => ?_) (fun h9 => absurd h9 (bI_n.mpr (inR_t (n := 16) hbb (by decide))))
  refine lv_aload_n hx hb dX0_evict_24 rfl (lv_at hl 0 rfl) ?_
  refine lv_iload_n hx hb dX0_evict_25 rfl (lv_at hl 1 rfl) ?_
  refine lv_iload_n hx hb dX0_evict_26 rfl (lv_at hl 2 rfl) ?_
  refine x_ci (rest := []) ⟨hx, hb, hml, hown, hts⟩ (cx_holds l D o cA S u b (by omega) (by omega)) (cwx_holds hts ⟨by decide, by decide⟩) hw rfl hl.1 rfl (Nat.le_of_ble_eq_true rfl) dX0_evict_27 ⟨Nat.zero_le _, Nat.zero_le _⟩ (fun H locs hw => ?_)
  refine lv_if_ne (tgt := 43) hx hb dX0_evict_30 (by decide) (fun _ => ?_) (fun h9 => absurd h9 (bI_n.mpr hh))
  refine lv_aload_n hx hb dX0_evict_43 rfl (lv_at hl 0 rfl) ?_
  refine lv_iload_n hx hb dX0_evict_44 rfl (lv_at hl 1 rfl) ?_
  refine lv_iload_n hx hb dX0_evict_45 rfl (lv_at hl 2 rfl) ?_
  refine x_cs (rest := [.ref (o 0)]) ⟨hx, hb, hml, hown, hts⟩ (cx_lineFor l u b (by omega) (by omega)) (cwx_lineFor hts ⟨by decide, by decide⟩) hw rfl hl.1 rfl (Nat.le_of_ble_eq_true rfl) dX0_evict_46 ⟨Nat.zero_le _, Nat.zero_le _⟩ (fun H locs hw => ?_)
  refine x_ci (rest := []) ⟨hx, hb, hml, hown, hts⟩ (cx_emptyLine l D o cA S (2 * u + b % 2) c9 (by omega) hc9 hB9) (cwx_emptyLine hts ⟨by decide, by decide⟩) hw rfl hl.1 rfl (Nat.le_of_ble_eq_true rfl) dX0_evict_49 ⟨Nat.zero_le _, Nat.zero_le _⟩ (fun H locs hw => ?_)
  exact x_retz hx hb hr hlocks hw ⟨rfl, rfl⟩ dX0_evict_52
