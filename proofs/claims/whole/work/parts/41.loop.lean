theorem cwh_read {R : Room} {s : State} {args : Array Value} (hts : ∀ w ∈ GT, w.before args s = true) (hR : 7 + 1 ≤ R.frames ∧ 8 + (5 + 11) + 320 ≤ R.locals) : vx_CSW R s args RL 39 yL_read cL_read 5 (some .int) [(0, 10, 13, 13)] ((.codeWith yL_read cL_read 5 (some .int) [(0, 10, 13, 13)] : Cond) :: GT) rmH 1 6 4 :=
  vx_cwSW 4 hts (show GoodIn GT (va_wsS RL 39 yL_read ((.codeWith yL_read cL_read 5 (some .int) [(0, 10, 13, 13)] : Cond) :: GT)) from lw_gin (lw_gin (lw_gin (lw_gin lw_self gw_113) gw_0) gw_112) gw_111) rfl rfl rfl (by decide +kernel) hR
theorem cwh_write {R : Room} {s : State} {args : Array Value} (hts : ∀ w ∈ GT, w.before args s = true) (hR : 7 + 1 ≤ R.frames ∧ 8 + (6 + 11) + 320 ≤ R.locals) : vx_CSW R s args RL 48 yL_write cL_write 6 (some .int) [(0, 12, 15, 13)] ((.codeWith yL_write cL_write 6 (some .int) [(0, 12, 15, 13)] : Cond) :: GT) rmH 1 6 5 :=
  vx_cwSW 5 hts (show GoodIn GT (va_wsS RL 48 yL_write ((.codeWith yL_write cL_write 6 (some .int) [(0, 12, 15, 13)] : Cond) :: GT)) from lw_gin (lw_gin (lw_gin (lw_gin lw_self gw_145) gw_0) gw_144) gw_143) rfl rfl rfl (by decide +kernel) hR
theorem cwh_evict {R : Room} {s : State} {args : Array Value} (hts : ∀ w ∈ GT, w.before args s = true) (hR : 7 + 1 ≤ R.frames ∧ 8 + (5 + 11) + 320 ≤ R.locals) : vx_CSW R s args RL 52 yL_evict cL_evict 5 (some .int) [(0, 17, 20, 13), (0, 17, 24, 23)] ((.codeWith yL_evict cL_evict 5 (some .int) [(0, 17, 20, 13), (0, 17, 24, 23)] : Cond) :: GT) rmH 1 6 4 :=
  vx_cwSW 4 hts (show GoodIn GT (va_wsS RL 52 yL_evict ((.codeWith yL_evict cL_evict 5 (some .int) [(0, 17, 20, 13), (0, 17, 24, 23)] : Cond) :: GT)) from lw_gin (lw_gin (lw_gin (lw_gin lw_self gw_167) gw_0) gw_166) gw_165) rfl rfl rfl (by decide +kernel) hR
theorem cwlx_protocol {R : Room} {s : State} {args : Array Value} (hts : ∀ w ∈ GT, w.before args s = true) (hR : 0 + 1 ≤ R.frames ∧ 8 + (1 + 11) + 40 * 0 ≤ R.locals) : CallW R s args RL RX0 34 yX0_protocol cX0_protocol 1 (some .int) ((.code yX0_protocol cX0_protocol 1 (some .int) : Cond) :: GT) (rmD 0) 0 0 0 :=
  cwV 0 hts (show GoodIn GT (wsV RL 34 RX0 yX0_protocol ((.code yX0_protocol cX0_protocol 1 (some .int) : Cond) :: GT)) from lw_gin (lw_gin (lw_gin (lw_gin (lw_gin lw_self gw_42) gw_1) gw_41) gw_40) gw_39) rfl rfl rfl (by decide +kernel) hR
theorem cwlm_protocol {R : Room} {s : State} {args : Array Value} (hts : ∀ w ∈ GT, w.before args s = true) (hR : 0 + 1 ≤ R.frames ∧ 8 + (1 + 11) + 40 * 0 ≤ R.locals) : CallW R s args RL RX1 38 yX1_protocol cX1_protocol 1 (some .int) ((.code yX1_protocol cX1_protocol 1 (some .int) : Cond) :: GT) (rmD 0) 0 0 0 :=
  cwV 0 hts (show GoodIn GT (wsV RL 38 RX1 yX1_protocol ((.code yX1_protocol cX1_protocol 1 (some .int) : Cond) :: GT)) from lw_gin (lw_gin (lw_gin (lw_gin (lw_gin lw_self gw_198) gw_3) gw_197) gw_196) gw_195) rfl rfl rfl (by decide +kernel) hR
theorem cwlx_flush {R : Room} {s : State} {args : Array Value} (hts : ∀ w ∈ GT, w.before args s = true) (hR : 3 + 1 ≤ R.frames ∧ 8 + (3 + 11) + 40 * 3 ≤ R.locals) : CallW R s args RL RX0 55 yX0_flush cX0_flush 3 (some .int) ((.code yX0_flush cX0_flush 3 (some .int) : Cond) :: GT) (rmD 3) 0 0 0 :=
  cwV 0 hts (show GoodIn GT (wsV RL 55 RX0 yX0_flush ((.code yX0_flush cX0_flush 3 (some .int) : Cond) :: GT)) from lw_gin (lw_gin (lw_gin (lw_gin (lw_gin lw_self gw_46) gw_1) gw_45) gw_44) gw_43) rfl rfl rfl (by decide +kernel) hR
theorem cwlm_flush {R : Room} {s : State} {args : Array Value} (hts : ∀ w ∈ GT, w.before args s = true) (hR : 2 + 1 ≤ R.frames ∧ 8 + (6 + 11) + 40 * 2 ≤ R.locals) : CallW R s args RL RX1 58 yX1_flush cX1_flush 6 (some .int) ((.code yX1_flush cX1_flush 6 (some .int) : Cond) :: GT) (rmD 2) 0 0 0 :=
  cwV 0 hts (show GoodIn GT (wsV RL 58 RX1 yX1_flush ((.code yX1_flush cX1_flush 6 (some .int) : Cond) :: GT)) from lw_gin (lw_gin (lw_gin (lw_gin (lw_gin lw_self gw_250) gw_3) gw_249) gw_248) gw_247) rfl rfl rfl (by decide +kernel) hR
theorem cwlx_state {R : Room} {s : State} {args : Array Value} (hts : ∀ w ∈ GT, w.before args s = true) (hR : 2 + 1 ≤ R.frames ∧ 8 + (3 + 11) + 40 * 2 ≤ R.locals) : CallW R s args RL RX0 59 yX0_state cX0_state 3 (some .int) ((.code yX0_state cX0_state 3 (some .int) : Cond) :: GT) (rmD 2) 0 0 2 :=
  cwV 2 hts (show GoodIn GT (wsV RL 59 RX0 yX0_state ((.code yX0_state cX0_state 3 (some .int) : Cond) :: GT)) from lw_gin (lw_gin (lw_gin (lw_gin (lw_gin lw_self gw_65) gw_1) gw_64) gw_63) gw_62) rfl rfl rfl (by decide +kernel) hR
theorem cwlm_state {R : Room} {s : State} {args : Array Value} (hts : ∀ w ∈ GT, w.before args s = true) (hR : 1 + 1 ≤ R.frames ∧ 8 + (3 + 11) + 40 * 1 ≤ R.locals) : CallW R s args RL RX1 62 yX1_state cX1_state 3 (some .int) ((.code yX1_state cX1_state 3 (some .int) : Cond) :: GT) (rmD 1) 0 0 2 :=
  cwV 2 hts (show GoodIn GT (wsV RL 62 RX1 yX1_state ((.code yX1_state cX1_state 3 (some .int) : Cond) :: GT)) from lw_gin (lw_gin (lw_gin (lw_gin (lw_gin lw_self gw_254) gw_3) gw_253) gw_252) gw_251) rfl rfl rfl (by decide +kernel) hR
theorem cwlx_cached {R : Room} {s : State} {args : Array Value} (hts : ∀ w ∈ GT, w.before args s = true) (hR : 2 + 1 ≤ R.frames ∧ 8 + (3 + 11) + 40 * 2 ≤ R.locals) : CallW R s args RL RX0 63 yX0_cached cX0_cached 3 (some .int) ((.code yX0_cached cX0_cached 3 (some .int) : Cond) :: GT) (rmD 2) 0 0 2 :=
  cwV 2 hts (show GoodIn GT (wsV RL 63 RX0 yX0_cached ((.code yX0_cached cX0_cached 3 (some .int) : Cond) :: GT)) from lw_gin (lw_gin (lw_gin (lw_gin (lw_gin lw_self gw_81) gw_1) gw_80) gw_79) gw_78) rfl rfl rfl (by decide +kernel) hR
theorem cwlm_cached {R : Room} {s : State} {args : Array Value} (hts : ∀ w ∈ GT, w.before args s = true) (hR : 1 + 1 ≤ R.frames ∧ 8 + (3 + 11) + 40 * 1 ≤ R.locals) : CallW R s args RL RX1 66 yX1_cached cX1_cached 3 (some .int) ((.code yX1_cached cX1_cached 3 (some .int) : Cond) :: GT) (rmD 1) 0 0 2 :=
  cwV 2 hts (show GoodIn GT (wsV RL 66 RX1 yX1_cached ((.code yX1_cached cX1_cached 3 (some .int) : Cond) :: GT)) from lw_gin (lw_gin (lw_gin (lw_gin (lw_gin lw_self gw_258) gw_3) gw_257) gw_256) gw_255) rfl rfl rfl (by decide +kernel) hR
theorem cwlx_memory {R : Room} {s : State} {args : Array Value} (hts : ∀ w ∈ GT, w.before args s = true) (hR : 1 + 1 ≤ R.frames ∧ 8 + (2 + 11) + 40 * 1 ≤ R.locals) : CallW R s args RL RX0 67 yX0_memory cX0_memory 2 (some .int) ((.code yX0_memory cX0_memory 2 (some .int) : Cond) :: GT) (rmD 1) 0 0 1 :=
  cwV 1 hts (show GoodIn GT (wsV RL 67 RX0 yX0_memory ((.code yX0_memory cX0_memory 2 (some .int) : Cond) :: GT)) from lw_gin (lw_gin (lw_gin (lw_gin (lw_gin lw_self gw_94) gw_1) gw_93) gw_92) gw_91) rfl rfl rfl (by decide +kernel) hR
theorem cwlm_memory {R : Room} {s : State} {args : Array Value} (hts : ∀ w ∈ GT, w.before args s = true) (hR : 1 + 1 ≤ R.frames ∧ 8 + (2 + 11) + 40 * 1 ≤ R.locals) : CallW R s args RL RX1 71 yX1_memory cX1_memory 2 (some .int) ((.code yX1_memory cX1_memory 2 (some .int) : Cond) :: GT) (rmD 1) 0 0 1 :=
  cwV 1 hts (show GoodIn GT (wsV RL 71 RX1 yX1_memory ((.code yX1_memory cX1_memory 2 (some .int) : Cond) :: GT)) from lw_gin (lw_gin (lw_gin (lw_gin (lw_gin lw_self gw_262) gw_3) gw_261) gw_260) gw_259) rfl rfl rfl (by decide +kernel) hR
theorem cwlx_count {R : Room} {s : State} {args : Array Value} (hts : ∀ w ∈ GT, w.before args s = true) (hR : 1 + 1 ≤ R.frames ∧ 8 + (2 + 11) + 40 * 1 ≤ R.locals) : CallW R s args RL RX0 72 yX0_count cX0_count 2 (some .int) ((.code yX0_count cX0_count 2 (some .int) : Cond) :: GT) (rmD 1) 0 0 1 :=
  cwV 1 hts (show GoodIn GT (wsV RL 72 RX0 yX0_count ((.code yX0_count cX0_count 2 (some .int) : Cond) :: GT)) from lw_gin (lw_gin (lw_gin (lw_gin (lw_gin lw_self gw_98) gw_1) gw_97) gw_96) gw_95) rfl rfl rfl (by decide +kernel) hR
theorem cwlm_count {R : Room} {s : State} {args : Array Value} (hts : ∀ w ∈ GT, w.before args s = true) (hR : 1 + 1 ≤ R.frames ∧ 8 + (2 + 11) + 40 * 1 ≤ R.locals) : CallW R s args RL RX1 75 yX1_count cX1_count 2 (some .int) ((.code yX1_count cX1_count 2 (some .int) : Cond) :: GT) (rmD 1) 0 0 1 :=
  cwV 1 hts (show GoodIn GT (wsV RL 75 RX1 yX1_count ((.code yX1_count cX1_count 2 (some .int) : Cond) :: GT)) from lw_gin (lw_gin (lw_gin (lw_gin (lw_gin lw_self gw_266) gw_3) gw_265) gw_264) gw_263) rfl rfl rfl (by decide +kernel) hR
theorem cwlx_latest {R : Room} {s : State} {args : Array Value} (hts : ∀ w ∈ GT, w.before args s = true) (hR : 1 + 1 ≤ R.frames ∧ 8 + (2 + 11) + 40 * 1 ≤ R.locals) : CallW R s args RL RX0 84 yX0_latest cX0_latest 2 (some .int) ((.code yX0_latest cX0_latest 2 (some .int) : Cond) :: GT) (rmD 1) 0 0 1 :=
  cwV 1 hts (show GoodIn GT (wsV RL 84 RX0 yX0_latest ((.code yX0_latest cX0_latest 2 (some .int) : Cond) :: GT)) from lw_gin (lw_gin (lw_gin (lw_gin (lw_gin lw_self gw_110) gw_1) gw_109) gw_108) gw_107) rfl rfl rfl (by decide +kernel) hR
theorem cwlm_latest {R : Room} {s : State} {args : Array Value} (hts : ∀ w ∈ GT, w.before args s = true) (hR : 1 + 1 ≤ R.frames ∧ 8 + (2 + 11) + 40 * 1 ≤ R.locals) : CallW R s args RL RX1 87 yX1_latest cX1_latest 2 (some .int) ((.code yX1_latest cX1_latest 2 (some .int) : Cond) :: GT) (rmD 1) 0 0 1 :=
  cwV 1 hts (show GoodIn GT (wsV RL 87 RX1 yX1_latest ((.code yX1_latest cX1_latest 2 (some .int) : Cond) :: GT)) from lw_gin (lw_gin (lw_gin (lw_gin (lw_gin lw_self gw_278) gw_3) gw_277) gw_276) gw_275) rfl rfl rfl (by decide +kernel) hR
theorem cwlx_hits {R : Room} {s : State} {args : Array Value} (hts : ∀ w ∈ GT, w.before args s = true) (hR : 0 + 1 ≤ R.frames ∧ 8 + (1 + 11) + 40 * 0 ≤ R.locals) : CallW R s args RL RX0 76 yX0_hits cX0_hits 1 (some .int) ((.code yX0_hits cX0_hits 1 (some .int) : Cond) :: GT) (rmD 0) 0 0 0 :=
  cwV 0 hts (show GoodIn GT (wsV RL 76 RX0 yX0_hits ((.code yX0_hits cX0_hits 1 (some .int) : Cond) :: GT)) from lw_gin (lw_gin (lw_gin (lw_gin (lw_gin lw_self gw_102) gw_1) gw_101) gw_100) gw_99) rfl rfl rfl (by decide +kernel) hR
theorem cwlm_hits {R : Room} {s : State} {args : Array Value} (hts : ∀ w ∈ GT, w.before args s = true) (hR : 0 + 1 ≤ R.frames ∧ 8 + (1 + 11) + 40 * 0 ≤ R.locals) : CallW R s args RL RX1 79 yX1_hits cX1_hits 1 (some .int) ((.code yX1_hits cX1_hits 1 (some .int) : Cond) :: GT) (rmD 0) 0 0 0 :=
  cwV 0 hts (show GoodIn GT (wsV RL 79 RX1 yX1_hits ((.code yX1_hits cX1_hits 1 (some .int) : Cond) :: GT)) from lw_gin (lw_gin (lw_gin (lw_gin (lw_gin lw_self gw_270) gw_3) gw_269) gw_268) gw_267) rfl rfl rfl (by decide +kernel) hR
theorem cwlx_misses {R : Room} {s : State} {args : Array Value} (hts : ∀ w ∈ GT, w.before args s = true) (hR : 0 + 1 ≤ R.frames ∧ 8 + (1 + 11) + 40 * 0 ≤ R.locals) : CallW R s args RL RX0 80 yX0_misses cX0_misses 1 (some .int) ((.code yX0_misses cX0_misses 1 (some .int) : Cond) :: GT) (rmD 0) 0 0 0 :=
  cwV 0 hts (show GoodIn GT (wsV RL 80 RX0 yX0_misses ((.code yX0_misses cX0_misses 1 (some .int) : Cond) :: GT)) from lw_gin (lw_gin (lw_gin (lw_gin (lw_gin lw_self gw_106) gw_1) gw_105) gw_104) gw_103) rfl rfl rfl (by decide +kernel) hR
theorem cwlm_misses {R : Room} {s : State} {args : Array Value} (hts : ∀ w ∈ GT, w.before args s = true) (hR : 0 + 1 ≤ R.frames ∧ 8 + (1 + 11) + 40 * 0 ≤ R.locals) : CallW R s args RL RX1 83 yX1_misses cX1_misses 1 (some .int) ((.code yX1_misses cX1_misses 1 (some .int) : Cond) :: GT) (rmD 0) 0 0 0 :=
  cwV 0 hts (show GoodIn GT (wsV RL 83 RX1 yX1_misses ((.code yX1_misses cX1_misses 1 (some .int) : Cond) :: GT)) from lw_gin (lw_gin (lw_gin (lw_gin (lw_gin lw_self gw_274) gw_3) gw_273) gw_272) gw_271) rfl rfl rfl (by decide +kernel) hR
theorem cwlx_choose {R : Room} {s : State} {args : Array Value} (hts : ∀ w ∈ GT, w.before args s = true) (hR : 2 + 1 ≤ R.frames ∧ 8 + (2 + 11) + 40 * 2 ≤ R.locals) : CallW R s args RL RX0 29 yX0_choose cX0_choose 2 (some .boolean) ((.code yX0_choose cX0_choose 2 (some .boolean) : Cond) :: GT) (rmD 2) 0 0 1 :=
  cwV 1 hts (show GoodIn GT (wsV RL 29 RX0 yX0_choose ((.code yX0_choose cX0_choose 2 (some .boolean) : Cond) :: GT)) from lw_gin (lw_gin (lw_gin (lw_gin (lw_gin lw_self gw_38) gw_1) gw_37) gw_36) gw_35) rfl rfl rfl (by decide +kernel) hR
theorem cwlm_choose {R : Room} {s : State} {args : Array Value} (hts : ∀ w ∈ GT, w.before args s = true) (hR : 0 + 1 ≤ R.frames ∧ 8 + (3 + 11) + 40 * 0 ≤ R.locals) : CallW R s args RL RX1 33 yX1_choose cX1_choose 3 (some .boolean) ((.code yX1_choose cX1_choose 3 (some .boolean) : Cond) :: GT) (rmD 0) 0 0 1 :=
  cwV 1 hts (show GoodIn GT (wsV RL 33 RX1 yX1_choose ((.code yX1_choose cX1_choose 3 (some .boolean) : Cond) :: GT)) from lw_gin (lw_gin (lw_gin (lw_gin (lw_gin lw_self gw_194) gw_3) gw_193) gw_192) gw_191) rfl rfl rfl (by decide +kernel) hR
theorem cwlx_choose_bad {R : Room} {s : State} {args : Array Value} (hts : ∀ w ∈ GT, w.before args s = true) (hR : 0 + 1 ≤ R.frames ∧ 8 + (2 + 11) + 40 * 0 ≤ R.locals) : CallW R s args RL RX0 29 yX0_choose cX0_choose 2 (some .boolean) ((.code yX0_choose cX0_choose 2 (some .boolean) : Cond) :: GT) (rmD 0) 0 0 1 :=
  cwV 1 hts (show GoodIn GT (wsV RL 29 RX0 yX0_choose ((.code yX0_choose cX0_choose 2 (some .boolean) : Cond) :: GT)) from lw_gin (lw_gin (lw_gin (lw_gin (lw_gin lw_self gw_38) gw_1) gw_37) gw_36) gw_35) rfl rfl rfl (by decide +kernel) hR
theorem cwlm_choose_bad {R : Room} {s : State} {args : Array Value} (hts : ∀ w ∈ GT, w.before args s = true) (hR : 0 + 1 ≤ R.frames ∧ 8 + (3 + 11) + 40 * 0 ≤ R.locals) : CallW R s args RL RX1 33 yX1_choose cX1_choose 3 (some .boolean) ((.code yX1_choose cX1_choose 3 (some .boolean) : Cond) :: GT) (rmD 0) 0 0 1 :=
  cwV 1 hts (show GoodIn GT (wsV RL 33 RX1 yX1_choose ((.code yX1_choose cX1_choose 3 (some .boolean) : Cond) :: GT)) from lw_gin (lw_gin (lw_gin (lw_gin (lw_gin lw_self gw_194) gw_3) gw_193) gw_192) gw_191) rfl rfl rfl (by decide +kernel) hR
theorem cwlm_read {R : Room} {s : State} {args : Array Value} (hts : ∀ w ∈ GT, w.before args s = true) (hR : 3 + 1 ≤ R.frames ∧ 8 + (4 + 11) + 40 * 3 ≤ R.locals) : CallW R s args RL RX1 44 yX1_read cX1_read 4 (some .int) ((.code yX1_read cX1_read 4 (some .int) : Cond) :: GT) (rmD 3) 0 0 2 :=
  cwV 2 hts (show GoodIn GT (wsV RL 44 RX1 yX1_read ((.code yX1_read cX1_read 4 (some .int) : Cond) :: GT)) from lw_gin (lw_gin (lw_gin (lw_gin (lw_gin lw_self gw_202) gw_3) gw_201) gw_200) gw_199) rfl rfl rfl (by decide +kernel) hR
theorem cwlm_thrown {R : Room} {s : State} {args : Array Value} (hts : ∀ w ∈ GT, w.before args s = true) (hR : 0 + 1 ≤ R.frames ∧ 8 + (1 + 11) + 40 * 0 ≤ R.locals) : CallW R s args RL RX1 45 yX1_thrown cX1_thrown 1 (some .int) ((.code yX1_thrown cX1_thrown 1 (some .int) : Cond) :: GT) (rmD 0) 0 0 0 :=
  cwV 0 hts (show GoodIn GT (wsV RL 45 RX1 yX1_thrown ((.code yX1_thrown cX1_thrown 1 (some .int) : Cond) :: GT)) from lw_gin (lw_gin (lw_gin (lw_gin (lw_gin lw_self gw_282) gw_3) gw_281) gw_280) gw_279) rfl rfl rfl (by decide +kernel) hR
theorem cwlm_read_bad {R : Room} {s : State} {args : Array Value} (hts : ∀ w ∈ GT, w.before args s = true) (hR : 1 + 1 ≤ R.frames ∧ 8 + (4 + 11) + 40 * 1 ≤ R.locals) : CallW R s args RL RX1 44 yX1_read cX1_read 4 (some .int) ((.code yX1_read cX1_read 4 (some .int) : Cond) :: GT) (rmD 1) 0 0 2 :=
  cwV 2 hts (show GoodIn GT (wsV RL 44 RX1 yX1_read ((.code yX1_read cX1_read 4 (some .int) : Cond) :: GT)) from lw_gin (lw_gin (lw_gin (lw_gin (lw_gin lw_self gw_202) gw_3) gw_201) gw_200) gw_199) rfl rfl rfl (by decide +kernel) hR
theorem cwlm_write {R : Room} {s : State} {args : Array Value} (hts : ∀ w ∈ GT, w.before args s = true) (hR : 3 + 1 ≤ R.frames ∧ 8 + (9 + 11) + 40 * 3 ≤ R.locals) : CallW R s args RL RX1 51 yX1_write cX1_write 9 (some .int) ((.code yX1_write cX1_write 9 (some .int) : Cond) :: GT) (rmD 3) 0 0 3 :=
  cwV 3 hts (show GoodIn GT (wsV RL 51 RX1 yX1_write ((.code yX1_write cX1_write 9 (some .int) : Cond) :: GT)) from lw_gin (lw_gin (lw_gin (lw_gin (lw_gin lw_self gw_239) gw_3) gw_238) gw_237) gw_236) rfl rfl rfl (by decide +kernel) hR
theorem cwlm_write_bad {R : Room} {s : State} {args : Array Value} (hts : ∀ w ∈ GT, w.before args s = true) (hR : 1 + 1 ≤ R.frames ∧ 8 + (9 + 11) + 40 * 1 ≤ R.locals) : CallW R s args RL RX1 51 yX1_write cX1_write 9 (some .int) ((.code yX1_write cX1_write 9 (some .int) : Cond) :: GT) (rmD 1) 0 0 3 :=
  cwV 3 hts (show GoodIn GT (wsV RL 51 RX1 yX1_write ((.code yX1_write cX1_write 9 (some .int) : Cond) :: GT)) from lw_gin (lw_gin (lw_gin (lw_gin (lw_gin lw_self gw_239) gw_3) gw_238) gw_237) gw_236) rfl rfl rfl (by decide +kernel) hR
theorem cwlm_evict {R : Room} {s : State} {args : Array Value} (hts : ∀ w ∈ GT, w.before args s = true) (hR : 2 + 1 ≤ R.frames ∧ 8 + (3 + 11) + 40 * 2 ≤ R.locals) : CallW R s args RL RX1 54 yX1_evict cX1_evict 3 (some .boolean) ((.code yX1_evict cX1_evict 3 (some .boolean) : Cond) :: GT) (rmD 2) 0 0 2 :=
  cwV 2 hts (show GoodIn GT (wsV RL 54 RX1 yX1_evict ((.code yX1_evict cX1_evict 3 (some .boolean) : Cond) :: GT)) from lw_gin (lw_gin (lw_gin (lw_gin (lw_gin lw_self gw_246) gw_3) gw_245) gw_244) gw_243) rfl rfl rfl (by decide +kernel) hR
theorem cwlm_evict_no {R : Room} {s : State} {args : Array Value} (hts : ∀ w ∈ GT, w.before args s = true) (hR : 2 + 1 ≤ R.frames ∧ 8 + (3 + 11) + 40 * 2 ≤ R.locals) : CallW R s args RL RX1 54 yX1_evict cX1_evict 3 (some .boolean) ((.code yX1_evict cX1_evict 3 (some .boolean) : Cond) :: GT) (rmD 2) 0 0 2 :=
  cwV 2 hts (show GoodIn GT (wsV RL 54 RX1 yX1_evict ((.code yX1_evict cX1_evict 3 (some .boolean) : Cond) :: GT)) from lw_gin (lw_gin (lw_gin (lw_gin (lw_gin lw_self gw_246) gw_3) gw_245) gw_244) gw_243) rfl rfl rfl (by decide +kernel) hR
theorem cwlm_evict_bad {R : Room} {s : State} {args : Array Value} (hts : ∀ w ∈ GT, w.before args s = true) (hR : 1 + 1 ≤ R.frames ∧ 8 + (3 + 11) + 40 * 1 ≤ R.locals) : CallW R s args RL RX1 54 yX1_evict cX1_evict 3 (some .boolean) ((.code yX1_evict cX1_evict 3 (some .boolean) : Cond) :: GT) (rmD 1) 0 0 2 :=
  cwV 2 hts (show GoodIn GT (wsV RL 54 RX1 yX1_evict ((.code yX1_evict cX1_evict 3 (some .boolean) : Cond) :: GT)) from lw_gin (lw_gin (lw_gin (lw_gin (lw_gin lw_self gw_246) gw_3) gw_245) gw_244) gw_243) rfl rfl rfl (by decide +kernel) hR
set_option maxRecDepth 100000 in
set_option maxHeartbeats 4000000 in
theorem law_0 {P0 : Program} {e : Env} {s : State} {m : MethodId} {below : List Frame} {meth : Method} {c : Code} (l : Launch) (hl9 : l.stackTraces = false) {b L : Nat} {xs : Nat → Int32} (hL : L ≤ 2048) (hx : P0.tables.exec = Jvm.exec) (hb : c.code = code) (hml : c.maxLocals = 7) (hown : s.vm.findClass RL = some m.cls) (hts : ∀ w ∈ GT, w.before #[Value.ref b] s = true) (hX : va_X b L xs s s.heap) (hbl : b < s.heap.size)
    {D : va_G} {ox om : Nat → Nat} {cA cB cL : ClassId} {q sa sb sc : Nat} (hE : EN (lA s) sa sb sc s s.heap) (hN : va_Nc "java/lang/IllegalStateException" "java/lang/IllegalArgumentException" s) {Q : State → Prop} {k : Nat} (hk : 4 * k + 4 ≤ L) {S M : SX} {z : Nat → Int64} {H : Heap} {locs : List Loc} {ls : Array Slot} (hl : lv_has ls 7 [(4, .int (nI (4 * k))), (0, .ref b), (1, .ref (ox 0)), (2, .ref (om 0)), (3, .ref q)]) (hw : LW D ox om cA cB q cL z s S M H locs) (hR : RR (8 * k) S M) (fin : (∀ (S M : SX) (z : Nat → Int64) (H : Heap) (locs : List Loc) (ls : Array Slot), lv_has ls 7 [(4, .int (nI (4 * k))), (0, .ref b), (1, .ref (ox 0)), (2, .ref (om 0)), (3, .ref q)] → LW D ox om cA cB q cL z s S M H locs → RR (8 * k + 8) S M → W P0 l e room_1 s m #[Value.ref b] below meth c H locs (14 + (k + 1)) (335 + 6 * (k + 1)) Q (F0 m 553 ls []))) : W P0 l e room_1 s m #[Value.ref b] below meth c H locs (14 + k) (335 + 6 * k) Q (F0 m 104 ls []) := by
  have hf : 14 + k ≤ room_1.cells ∧ 335 + 6 * k ≤ room_1.slots := ⟨by show 14 + k ≤ 1042; omega, by show 335 + 6 * k ≤ 8551; omega⟩
  have hf1 : 14 + k + 1 ≤ room_1.cells ∧ 335 + 6 * k + 6 ≤ room_1.slots := ⟨by show 14 + k + 1 ≤ 1042; omega, by show 335 + 6 * k + 6 ≤ 8551; omega⟩
  by_cases hin : inR (xs (4 * k + 1)) 4 = true
  · obtain ⟨c1, c2, c3, c4⟩ := ch_v hin
    refine lv_aload_n hx hb dL_law_104 rfl (lv_at hl 2 rfl) ?_
    refine lv_aload_n hx hb dL_law_105 rfl (lv_at hl 1 rfl) ?_
    refine lv_iload hx hb dL_law_106 (lv_at hl 0 rfl) ?_
    refine lv_iconst (v := 1) hx hb dL_law_108 (by decide) ?_
    refine lv_iadd hx hb dL_law_109 ?_
    refine lw_top (y := nI ((4 * k) + 1)) (nI_add (4 * k) 1) ?_
    refine l_sld (k := (4 * k) + 1) hx hb hX hbl hw (by omega) hL dL_law_110 ?_
    refine l_xi (rest := []) ⟨hx, hb, hml, hown, hts⟩ (cx_choose l D ox cA S (xs (4 * k + 1)) c1 c2) (cwlx_choose hts ⟨by decide, by decide⟩) hw rfl hl.1 rfl (Nat.le_of_ble_eq_true rfl) dL_law_111 hf (fun H locs hw => ?_)
    refine lv_aload_n hx hb dL_law_114 rfl (lv_at hl 3 rfl) ?_
    refine lv_aload_n hx hb dL_law_115 rfl (lv_at hl 1 rfl) ?_
    refine lv_iload hx hb dL_law_116 (lv_at hl 0 rfl) ?_
    refine lv_iconst (v := 1) hx hb dL_law_118 (by decide) ?_
    refine lv_iadd hx hb dL_law_119 ?_
    refine lw_top (y := nI ((4 * k) + 1)) (nI_add (4 * k) 1) ?_
    refine l_sld (k := (4 * k) + 1) hx hb hX hbl hw (by omega) hL dL_law_120 ?_
    refine l_mi (rest := [.int (bI true)]) ⟨hx, hb, hml, hown, hts⟩ (cm_choose l D om cB M (xs (4 * k + 1)) c1 c3) (cwlm_choose hts ⟨by decide, by decide⟩) hw rfl hl.1 rfl (Nat.le_of_ble_eq_true rfl) dL_law_121 hf (fun H locs hw => ?_)
    refine lv_icmp_eq (tgt := 553) hx hb dL_law_124 (by decide) (fun _ => ?_) (fun h9 => absurd (rfl) h9)
    exact W.widen (k := 14 + (k + 1)) (n := 335 + 6 * (k + 1)) (by omega) (by omega) (fin _ _ _ _ _ _ (lv_sub hl [0, 1, 2, 3, 4] rfl) hw (rr_mono (rr_ch (rr_th hR 0) c4) (by omega)))
  · obtain ⟨c1, c2⟩ := ch_b hin
    refine lv_aload_n hx hb dL_law_104 rfl (lv_at hl 2 rfl) ?_
    refine lv_aload_n hx hb dL_law_105 rfl (lv_at hl 1 rfl) ?_
    refine lv_iload hx hb dL_law_106 (lv_at hl 0 rfl) ?_
    refine lv_iconst (v := 1) hx hb dL_law_108 (by decide) ?_
    refine lv_iadd hx hb dL_law_109 ?_
    refine lw_top (y := nI ((4 * k) + 1)) (nI_add (4 * k) 1) ?_
    refine l_sld (k := (4 * k) + 1) hx hb hX hbl hw (by omega) hL dL_law_110 ?_
    refine l_xi (rest := []) ⟨hx, hb, hml, hown, hts⟩ (cx_choose_bad l D ox cA S (xs (4 * k + 1)) c1) (cwlx_choose_bad hts ⟨by decide, by decide⟩) hw rfl hl.1 rfl (Nat.le_of_ble_eq_true rfl) dL_law_111 hf (fun H locs hw => ?_)
    refine lv_aload_n hx hb dL_law_114 rfl (lv_at hl 3 rfl) ?_
    refine lv_aload_n hx hb dL_law_115 rfl (lv_at hl 1 rfl) ?_
    refine lv_iload hx hb dL_law_116 (lv_at hl 0 rfl) ?_
    refine lv_iconst (v := 1) hx hb dL_law_118 (by decide) ?_
    refine lv_iadd hx hb dL_law_119 ?_
    refine lw_top (y := nI ((4 * k) + 1)) (nI_add (4 * k) 1) ?_
    refine l_sld (k := (4 * k) + 1) hx hb hX hbl hw (by omega) hL dL_law_120 ?_
    refine l_mi (rest := [.int (bI false)]) ⟨hx, hb, hml, hown, hts⟩ (cm_choose_bad l D om cB M (xs (4 * k + 1)) c2) (cwlm_choose_bad hts ⟨by decide, by decide⟩) hw rfl hl.1 rfl (Nat.le_of_ble_eq_true rfl) dL_law_121 hf (fun H locs hw => ?_)
    refine lv_icmp_eq (tgt := 553) hx hb dL_law_124 (by decide) (fun _ => ?_) (fun h9 => absurd (rfl) h9)
    exact W.widen (k := 14 + (k + 1)) (n := 335 + 6 * (k + 1)) (by omega) (by omega) (fin _ _ _ _ _ _ (lv_sub hl [0, 1, 2, 3, 4] rfl) hw (rr_mono (rr_th hR 0) (by omega)))
set_option maxRecDepth 100000 in
set_option maxHeartbeats 4000000 in
theorem law_1 {P0 : Program} {e : Env} {s : State} {m : MethodId} {below : List Frame} {meth : Method} {c : Code} (l : Launch) (hl9 : l.stackTraces = false) {b L : Nat} {xs : Nat → Int32} (hL : L ≤ 2048) (hx : P0.tables.exec = Jvm.exec) (hb : c.code = code) (hml : c.maxLocals = 7) (hown : s.vm.findClass RL = some m.cls) (hts : ∀ w ∈ GT, w.before #[Value.ref b] s = true) (hX : va_X b L xs s s.heap) (hbl : b < s.heap.size)
    {D : va_G} {ox om : Nat → Nat} {cA cB cL : ClassId} {q sa sb sc : Nat} (hE : EN (lA s) sa sb sc s s.heap) (hN : va_Nc "java/lang/IllegalStateException" "java/lang/IllegalArgumentException" s) {Q : State → Prop} {k : Nat} (hk : 4 * k + 4 ≤ L) {S M : SX} {z : Nat → Int64} {H : Heap} {locs : List Loc} {ls : Array Slot} (hl : lv_has ls 7 [(4, .int (nI (4 * k))), (0, .ref b), (1, .ref (ox 0)), (2, .ref (om 0)), (3, .ref q)]) (hw : LW D ox om cA cB q cL z s S M H locs) (hR : RR (8 * k) S M) (fin : (∀ (S M : SX) (z : Nat → Int64) (H : Heap) (locs : List Loc) (ls : Array Slot), lv_has ls 7 [(4, .int (nI (4 * k))), (0, .ref b), (1, .ref (ox 0)), (2, .ref (om 0)), (3, .ref q)] → LW D ox om cA cB q cL z s S M H locs → RR (8 * k + 8) S M → W P0 l e room_1 s m #[Value.ref b] below meth c H locs (14 + (k + 1)) (335 + 6 * (k + 1)) Q (F0 m 553 ls []))) : W P0 l e room_1 s m #[Value.ref b] below meth c H locs (14 + k) (335 + 6 * k) Q (F0 m 129 ls []) := by
  have hf : 14 + k ≤ room_1.cells ∧ 335 + 6 * k ≤ room_1.slots := ⟨by show 14 + k ≤ 1042; omega, by show 335 + 6 * k ≤ 8551; omega⟩
  have hf1 : 14 + k + 1 ≤ room_1.cells ∧ 335 + 6 * k + 6 ≤ room_1.slots := ⟨by show 14 + k + 1 ≤ 1042; omega, by show 335 + 6 * k + 6 ≤ 8551; omega⟩
  refine lv_aload_n hx hb dL_law_129 rfl (lv_at hl 2 rfl) ?_
  refine l_xi (rest := []) ⟨hx, hb, hml, hown, hts⟩ (cx_protocol l D ox cA S) (cwlx_protocol hts ⟨by decide, by decide⟩) hw rfl hl.1 rfl (Nat.le_of_ble_eq_true rfl) dL_law_130 hf (fun H locs hw => ?_)
  refine lv_aload_n hx hb dL_law_133 rfl (lv_at hl 3 rfl) ?_
  refine l_mi (rest := [.int (S.2 0)]) ⟨hx, hb, hml, hown, hts⟩ (cm_protocol l D om cB M) (cwlm_protocol hts ⟨by decide, by decide⟩) hw rfl hl.1 rfl (Nat.le_of_ble_eq_true rfl) dL_law_134 hf (fun H locs hw => ?_)
  refine lv_icmp_eq (tgt := 553) hx hb dL_law_137 (by decide) (fun _ => ?_) (fun h9 => absurd (hR.1.2.2.2.2.2.2.2.1.1.symm) h9)
  exact W.widen (k := 14 + (k + 1)) (n := 335 + 6 * (k + 1)) (by omega) (by omega) (fin _ _ _ _ _ _ (lv_sub hl [0, 1, 2, 3, 4] rfl) hw (rr_mono hR (by omega)))
set_option maxRecDepth 100000 in
set_option maxHeartbeats 4000000 in
theorem law_2 {P0 : Program} {e : Env} {s : State} {m : MethodId} {below : List Frame} {meth : Method} {c : Code} (l : Launch) (hl9 : l.stackTraces = false) {b L : Nat} {xs : Nat → Int32} (hL : L ≤ 2048) (hx : P0.tables.exec = Jvm.exec) (hb : c.code = code) (hml : c.maxLocals = 7) (hown : s.vm.findClass RL = some m.cls) (hts : ∀ w ∈ GT, w.before #[Value.ref b] s = true) (hX : va_X b L xs s s.heap) (hbl : b < s.heap.size)
    {D : va_G} {ox om : Nat → Nat} {cA cB cL : ClassId} {q sa sb sc : Nat} (hE : EN (lA s) sa sb sc s s.heap) (hN : va_Nc "java/lang/IllegalStateException" "java/lang/IllegalArgumentException" s) {Q : State → Prop} {k : Nat} (hk : 4 * k + 4 ≤ L) {S M : SX} {z : Nat → Int64} {H : Heap} {locs : List Loc} {ls : Array Slot} (hl : lv_has ls 7 [(4, .int (nI (4 * k))), (0, .ref b), (1, .ref (ox 0)), (2, .ref (om 0)), (3, .ref q)]) (hw : LW D ox om cA cB q cL z s S M H locs) (hR : RR (8 * k) S M) (fin : (∀ (S M : SX) (z : Nat → Int64) (H : Heap) (locs : List Loc) (ls : Array Slot), lv_has ls 7 [(4, .int (nI (4 * k))), (0, .ref b), (1, .ref (ox 0)), (2, .ref (om 0)), (3, .ref q)] → LW D ox om cA cB q cL z s S M H locs → RR (8 * k + 8) S M → W P0 l e room_1 s m #[Value.ref b] below meth c H locs (14 + (k + 1)) (335 + 6 * (k + 1)) Q (F0 m 553 ls []))) : W P0 l e room_1 s m #[Value.ref b] below meth c H locs (14 + k) (335 + 6 * k) Q (F0 m 142 ls []) := by
  have hf : 14 + k ≤ room_1.cells ∧ 335 + 6 * k ≤ room_1.slots := ⟨by show 14 + k ≤ 1042; omega, by show 335 + 6 * k ≤ 8551; omega⟩
  have hf1 : 14 + k + 1 ≤ room_1.cells ∧ 335 + 6 * k + 6 ≤ room_1.slots := ⟨by show 14 + k + 1 ≤ 1042; omega, by show 335 + 6 * k + 6 ≤ 8551; omega⟩
  by_cases hin : (inR (xs (4 * k + 1)) 4 && inR (xs (4 * k + 2)) 32) = true
  · obtain ⟨u, v, hu, hv, e1, e2⟩ := two_in (a := 4) (b := 32) (by decide) (by decide) hin
    refine lv_aload_n hx hb dL_law_142 rfl (lv_at hl 2 rfl) ?_
    refine lv_aload_n hx hb dL_law_143 rfl (lv_at hl 1 rfl) ?_
    refine lv_iload hx hb dL_law_144 (lv_at hl 0 rfl) ?_
    refine lv_iconst (v := 1) hx hb dL_law_146 (by decide) ?_
    refine lv_iadd hx hb dL_law_147 ?_
    refine lw_top (y := nI ((4 * k) + 1)) (nI_add (4 * k) 1) ?_
    refine l_sld (k := (4 * k) + 1) hx hb hX hbl hw (by omega) hL dL_law_148 ?_
    refine lw_top (y := nI u) e1 ?_
    refine lv_aload_n hx hb dL_law_149 rfl (lv_at hl 1 rfl) ?_
    refine lv_iload hx hb dL_law_150 (lv_at hl 0 rfl) ?_
    refine lv_iconst (v := 2) hx hb dL_law_152 (by decide) ?_
    refine lv_iadd hx hb dL_law_153 ?_
    refine lw_top (y := nI ((4 * k) + 2)) (nI_add (4 * k) 2) ?_
    refine l_sld (k := (4 * k) + 2) hx hb hX hbl hw (by omega) hL dL_law_154 ?_
    refine lw_top (y := nI v) e2 ?_
    refine lv_aload_n hx hb dL_law_155 rfl (lv_at hl 4 rfl) ?_
    refine l_h (rest := []) ⟨hx, hb, hml, hown, hts⟩ (ch_read l hl9 D ox cA q cL sa sb sc S z u v hu hv (ra_okB hR.1)) (cwh_read hts ⟨by decide, by decide⟩) hw hE hN rfl hl.1 rfl (Nat.le_of_ble_eq_true rfl) dL_law_156 ⟨by show 14 + k + 1 ≤ 1042; omega, by show 335 + 6 * k + 6 ≤ 8551; omega⟩ (fun H locs hw => ?_)
    refine lv_istore (lv' := [(5, .int 0), (4, .int (nI (4 * k))), (0, .ref b), (1, .ref (ox 0)), (2, .ref (om 0)), (3, .ref q)]) hx hb dL_law_159 hl (by decide) rfl (fun ls hl => ?_)
    refine lv_aload_n hx hb dL_law_161 rfl (lv_at hl 4 rfl) ?_
    refine lv_aload_n hx hb dL_law_162 rfl (lv_at hl 2 rfl) ?_
    refine lv_iload hx hb dL_law_163 (lv_at hl 1 rfl) ?_
    refine lv_iconst (v := 1) hx hb dL_law_165 (by decide) ?_
    refine lv_iadd hx hb dL_law_166 ?_
    refine lw_top (y := nI ((4 * k) + 1)) (nI_add (4 * k) 1) ?_
    refine l_sld (k := (4 * k) + 1) hx hb hX hbl hw (by omega) hL dL_law_167 ?_
    refine lw_top (y := nI u) e1 ?_
    refine lv_aload_n hx hb dL_law_168 rfl (lv_at hl 2 rfl) ?_
    refine lv_iload hx hb dL_law_169 (lv_at hl 1 rfl) ?_
    refine lv_iconst (v := 2) hx hb dL_law_171 (by decide) ?_
    refine lv_iadd hx hb dL_law_172 ?_
    refine lw_top (y := nI ((4 * k) + 2)) (nI_add (4 * k) 2) ?_
    refine l_sld (k := (4 * k) + 2) hx hb hX hbl hw (by omega) hL dL_law_173 ?_
    refine lw_top (y := nI v) e2 ?_
    refine l_mi (rest := []) ⟨hx, hb, hml, hown, hts⟩ (cm_read l D om cB M u v hu hv) (cwlm_read hts ⟨by decide, by decide⟩) hw rfl hl.1 rfl (Nat.le_of_ble_eq_true rfl) dL_law_174 hf1 (fun H locs hw => ?_)
    refine lv_istore (lv' := [(6, .int ((mRd (zF M 4 0) u v).1 1 (32 * u + v))), (5, .int 0), (4, .int (nI (4 * k))), (0, .ref b), (1, .ref (ox 0)), (2, .ref (om 0)), (3, .ref q)]) hx hb dL_law_177 hl (by decide) rfl (fun ls hl => ?_)
    refine lv_aload_n hx hb dL_law_179 rfl (lv_at hl 5 rfl) ?_
    refine l_mi (rest := []) ⟨hx, hb, hml, hown, hts⟩ (cm_thrown l D om cB (mRd (zF M 4 0) u v)) (cwlm_thrown hts ⟨by decide, by decide⟩) hw rfl hl.1 rfl (Nat.le_of_ble_eq_true rfl) dL_law_180 hf1 (fun H locs hw => ?_)
    refine lv_iload hx hb dL_law_183 (lv_at hl 1 rfl) ?_
    refine lv_icmp_eq (tgt := 190) hx hb dL_law_185 (by decide) (fun _ => ?_) (fun h9 => absurd ((mRd_4 _ _ _).trans (zF_s _ _ _)) h9)
    refine lv_iload hx hb dL_law_190 (lv_at hl 1 rfl) ?_
    refine lv_if_ne (tgt := 207) hx hb dL_law_192 (by decide) (fun h9 => absurd h9 (by decide)) (fun _ => ?_)
    refine lv_aload_n hx hb dL_law_195 rfl (lv_at hl 6 rfl) ?_
    refine lv_iconst (v := 0) hx hb dL_law_196 (by decide) ?_
    refine l_lald hx hb hw dL_law_197 ?_
    refine lv_iload hx hb dL_law_198 (lv_at hl 0 rfl) ?_
    refine lv_i2l (v := (((mRd (zF M 4 0) u v).1 1 (32 * u + v))).toInt64) hx hb dL_law_200 rfl ?_
    refine W.lcmp hx hb dL_law_201 ?_
    refine lv_if_eq (tgt := 207) hx hb dL_law_202 (by decide) (fun _ => ?_) (fun h9 => absurd (by rw [pk_uLs, (rr_rd (rr_th hR 0) hu hv).2]; exact lg_self _) h9)
    refine lv_goto (tgt := 553) hx hb dL_law_207 (by decide) ?_
    exact W.widen (k := 14 + (k + 1)) (n := 335 + 6 * (k + 1)) (by omega) (by omega) (fin _ _ _ _ _ _ (lv_sub hl [2, 3, 4, 5, 6] rfl) hw (rr_mono (rr_rd (rr_th hR 0) hu hv).1 (by omega)))
  · have hin := Bool.eq_false_iff.mpr hin
    refine lv_aload_n hx hb dL_law_142 rfl (lv_at hl 2 rfl) ?_
    refine lv_aload_n hx hb dL_law_143 rfl (lv_at hl 1 rfl) ?_
    refine lv_iload hx hb dL_law_144 (lv_at hl 0 rfl) ?_
    refine lv_iconst (v := 1) hx hb dL_law_146 (by decide) ?_
    refine lv_iadd hx hb dL_law_147 ?_
    refine lw_top (y := nI ((4 * k) + 1)) (nI_add (4 * k) 1) ?_
    refine l_sld (k := (4 * k) + 1) hx hb hX hbl hw (by omega) hL dL_law_148 ?_
    refine lv_aload_n hx hb dL_law_149 rfl (lv_at hl 1 rfl) ?_
    refine lv_iload hx hb dL_law_150 (lv_at hl 0 rfl) ?_
    refine lv_iconst (v := 2) hx hb dL_law_152 (by decide) ?_
    refine lv_iadd hx hb dL_law_153 ?_
    refine lw_top (y := nI ((4 * k) + 2)) (nI_add (4 * k) 2) ?_
    refine l_sld (k := (4 * k) + 2) hx hb hX hbl hw (by omega) hL dL_law_154 ?_
    refine lv_aload_n hx hb dL_law_155 rfl (lv_at hl 4 rfl) ?_
    refine l_h (rest := []) ⟨hx, hb, hml, hown, hts⟩ (ch_read_bad l hl9 D ox cA q cL sa sb sc S z (xs (4 * k + 1)) (xs (4 * k + 2)) hin) (cwh_read hts ⟨by decide, by decide⟩) hw hE hN rfl hl.1 rfl (Nat.le_of_ble_eq_true rfl) dL_law_156 ⟨by show 14 + k + 1 ≤ 1042; omega, by show 335 + 6 * k + 6 ≤ 8551; omega⟩ (fun H locs hw => ?_)
    refine lv_istore (lv' := [(5, .int 1), (4, .int (nI (4 * k))), (0, .ref b), (1, .ref (ox 0)), (2, .ref (om 0)), (3, .ref q)]) hx hb dL_law_159 hl (by decide) rfl (fun ls hl => ?_)
    refine lv_aload_n hx hb dL_law_161 rfl (lv_at hl 4 rfl) ?_
    refine lv_aload_n hx hb dL_law_162 rfl (lv_at hl 2 rfl) ?_
    refine lv_iload hx hb dL_law_163 (lv_at hl 1 rfl) ?_
    refine lv_iconst (v := 1) hx hb dL_law_165 (by decide) ?_
    refine lv_iadd hx hb dL_law_166 ?_
    refine lw_top (y := nI ((4 * k) + 1)) (nI_add (4 * k) 1) ?_
    refine l_sld (k := (4 * k) + 1) hx hb hX hbl hw (by omega) hL dL_law_167 ?_
    refine lv_aload_n hx hb dL_law_168 rfl (lv_at hl 2 rfl) ?_
    refine lv_iload hx hb dL_law_169 (lv_at hl 1 rfl) ?_
    refine lv_iconst (v := 2) hx hb dL_law_171 (by decide) ?_
    refine lv_iadd hx hb dL_law_172 ?_
    refine lw_top (y := nI ((4 * k) + 2)) (nI_add (4 * k) 2) ?_
    refine l_sld (k := (4 * k) + 2) hx hb hX hbl hw (by omega) hL dL_law_173 ?_
    refine l_mi (rest := []) ⟨hx, hb, hml, hown, hts⟩ (cm_read_bad l D om cB M (xs (4 * k + 1)) (xs (4 * k + 2)) (by rw [bad_eq]; exact hin)) (cwlm_read_bad hts ⟨by decide, by decide⟩) hw rfl hl.1 rfl (Nat.le_of_ble_eq_true rfl) dL_law_174 hf1 (fun H locs hw => ?_)
    refine lv_istore (lv' := [(6, .int 0), (5, .int 1), (4, .int (nI (4 * k))), (0, .ref b), (1, .ref (ox 0)), (2, .ref (om 0)), (3, .ref q)]) hx hb dL_law_177 hl (by decide) rfl (fun ls hl => ?_)
    refine lv_aload_n hx hb dL_law_179 rfl (lv_at hl 5 rfl) ?_
    refine l_mi (rest := []) ⟨hx, hb, hml, hown, hts⟩ (cm_thrown l D om cB (zF M 4 1)) (cwlm_thrown hts ⟨by decide, by decide⟩) hw rfl hl.1 rfl (Nat.le_of_ble_eq_true rfl) dL_law_180 hf1 (fun H locs hw => ?_)
    refine lv_iload hx hb dL_law_183 (lv_at hl 1 rfl) ?_
    refine lv_icmp_eq (tgt := 190) hx hb dL_law_185 (by decide) (fun _ => ?_) (fun h9 => absurd (zF_s _ _ _) h9)
    refine lv_iload hx hb dL_law_190 (lv_at hl 1 rfl) ?_
    refine lv_if_ne (tgt := 207) hx hb dL_law_192 (by decide) (fun _ => ?_) (fun h9 => absurd h9 (by decide))
    refine lv_goto (tgt := 553) hx hb dL_law_207 (by decide) ?_
    exact W.widen (k := 14 + (k + 1)) (n := 335 + 6 * (k + 1)) (by omega) (by omega) (fin _ _ _ _ _ _ (lv_sub hl [2, 3, 4, 5, 6] rfl) hw (rr_mono (rr_th hR 1) (by omega)))
set_option maxRecDepth 100000 in
set_option maxHeartbeats 4000000 in
theorem law_3 {P0 : Program} {e : Env} {s : State} {m : MethodId} {below : List Frame} {meth : Method} {c : Code} (l : Launch) (hl9 : l.stackTraces = false) {b L : Nat} {xs : Nat → Int32} (hL : L ≤ 2048) (hx : P0.tables.exec = Jvm.exec) (hb : c.code = code) (hml : c.maxLocals = 7) (hown : s.vm.findClass RL = some m.cls) (hts : ∀ w ∈ GT, w.before #[Value.ref b] s = true) (hX : va_X b L xs s s.heap) (hbl : b < s.heap.size)
    {D : va_G} {ox om : Nat → Nat} {cA cB cL : ClassId} {q sa sb sc : Nat} (hE : EN (lA s) sa sb sc s s.heap) (hN : va_Nc "java/lang/IllegalStateException" "java/lang/IllegalArgumentException" s) {Q : State → Prop} {k : Nat} (hk : 4 * k + 4 ≤ L) {S M : SX} {z : Nat → Int64} {H : Heap} {locs : List Loc} {ls : Array Slot} (hl : lv_has ls 7 [(4, .int (nI (4 * k))), (0, .ref b), (1, .ref (ox 0)), (2, .ref (om 0)), (3, .ref q)]) (hw : LW D ox om cA cB q cL z s S M H locs) (hR : RR (8 * k) S M) (fin : (∀ (S M : SX) (z : Nat → Int64) (H : Heap) (locs : List Loc) (ls : Array Slot), lv_has ls 7 [(4, .int (nI (4 * k))), (0, .ref b), (1, .ref (ox 0)), (2, .ref (om 0)), (3, .ref q)] → LW D ox om cA cB q cL z s S M H locs → RR (8 * k + 8) S M → W P0 l e room_1 s m #[Value.ref b] below meth c H locs (14 + (k + 1)) (335 + 6 * (k + 1)) Q (F0 m 553 ls []))) : W P0 l e room_1 s m #[Value.ref b] below meth c H locs (14 + k) (335 + 6 * k) Q (F0 m 210 ls []) := by
  have hf : 14 + k ≤ room_1.cells ∧ 335 + 6 * k ≤ room_1.slots := ⟨by show 14 + k ≤ 1042; omega, by show 335 + 6 * k ≤ 8551; omega⟩
  have hf1 : 14 + k + 1 ≤ room_1.cells ∧ 335 + 6 * k + 6 ≤ room_1.slots := ⟨by show 14 + k + 1 ≤ 1042; omega, by show 335 + 6 * k + 6 ≤ 8551; omega⟩
  by_cases hin : (inR (xs (4 * k + 1)) 4 && inR (xs (4 * k + 2)) 32) = true
  · obtain ⟨u, v, hu, hv, e1, e2⟩ := two_in (a := 4) (b := 32) (by decide) (by decide) hin
    refine lv_aload_n hx hb dL_law_210 rfl (lv_at hl 2 rfl) ?_
    refine lv_aload_n hx hb dL_law_211 rfl (lv_at hl 1 rfl) ?_
    refine lv_iload hx hb dL_law_212 (lv_at hl 0 rfl) ?_
    refine lv_iconst (v := 1) hx hb dL_law_214 (by decide) ?_
    refine lv_iadd hx hb dL_law_215 ?_
    refine lw_top (y := nI ((4 * k) + 1)) (nI_add (4 * k) 1) ?_
    refine l_sld (k := (4 * k) + 1) hx hb hX hbl hw (by omega) hL dL_law_216 ?_
    refine lw_top (y := nI u) e1 ?_
    refine lv_aload_n hx hb dL_law_217 rfl (lv_at hl 1 rfl) ?_
    refine lv_iload hx hb dL_law_218 (lv_at hl 0 rfl) ?_
    refine lv_iconst (v := 2) hx hb dL_law_220 (by decide) ?_
    refine lv_iadd hx hb dL_law_221 ?_
    refine lw_top (y := nI ((4 * k) + 2)) (nI_add (4 * k) 2) ?_
    refine l_sld (k := (4 * k) + 2) hx hb hX hbl hw (by omega) hL dL_law_222 ?_
    refine lw_top (y := nI v) e2 ?_
    refine lv_aload_n hx hb dL_law_223 rfl (lv_at hl 1 rfl) ?_
    refine lv_iload hx hb dL_law_224 (lv_at hl 0 rfl) ?_
    refine lv_iconst (v := 3) hx hb dL_law_226 (by decide) ?_
    refine lv_iadd hx hb dL_law_227 ?_
    refine lw_top (y := nI ((4 * k) + 3)) (nI_add (4 * k) 3) ?_
    refine l_sld (k := (4 * k) + 3) hx hb hX hbl hw (by omega) hL dL_law_228 ?_
    refine lv_aload_n hx hb dL_law_229 rfl (lv_at hl 4 rfl) ?_
    refine l_h (rest := []) ⟨hx, hb, hml, hown, hts⟩ (ch_write l hl9 D ox cA q cL sa sb sc S z u v (xs (4 * k + 3)) hu hv (ra_okB hR.1)) (cwh_write hts ⟨by decide, by decide⟩) hw hE hN rfl hl.1 rfl (Nat.le_of_ble_eq_true rfl) dL_law_230 ⟨by show 14 + k + 1 ≤ 1042; omega, by show 335 + 6 * k + 6 ≤ 8551; omega⟩ (fun H locs hw => ?_)
    refine lv_istore (lv' := [(5, .int 0), (4, .int (nI (4 * k))), (0, .ref b), (1, .ref (ox 0)), (2, .ref (om 0)), (3, .ref q)]) hx hb dL_law_233 hl (by decide) rfl (fun ls hl => ?_)
    refine lv_aload_n hx hb dL_law_235 rfl (lv_at hl 4 rfl) ?_
    refine lv_aload_n hx hb dL_law_236 rfl (lv_at hl 2 rfl) ?_
    refine lv_iload hx hb dL_law_237 (lv_at hl 1 rfl) ?_
    refine lv_iconst (v := 1) hx hb dL_law_239 (by decide) ?_
    refine lv_iadd hx hb dL_law_240 ?_
    refine lw_top (y := nI ((4 * k) + 1)) (nI_add (4 * k) 1) ?_
    refine l_sld (k := (4 * k) + 1) hx hb hX hbl hw (by omega) hL dL_law_241 ?_
    refine lw_top (y := nI u) e1 ?_
    refine lv_aload_n hx hb dL_law_242 rfl (lv_at hl 2 rfl) ?_
    refine lv_iload hx hb dL_law_243 (lv_at hl 1 rfl) ?_
    refine lv_iconst (v := 2) hx hb dL_law_245 (by decide) ?_
    refine lv_iadd hx hb dL_law_246 ?_
    refine lw_top (y := nI ((4 * k) + 2)) (nI_add (4 * k) 2) ?_
    refine l_sld (k := (4 * k) + 2) hx hb hX hbl hw (by omega) hL dL_law_247 ?_
    refine lw_top (y := nI v) e2 ?_
    refine lv_aload_n hx hb dL_law_248 rfl (lv_at hl 2 rfl) ?_
    refine lv_iload hx hb dL_law_249 (lv_at hl 1 rfl) ?_
    refine lv_iconst (v := 3) hx hb dL_law_251 (by decide) ?_
    refine lv_iadd hx hb dL_law_252 ?_
    refine lw_top (y := nI ((4 * k) + 3)) (nI_add (4 * k) 3) ?_
    refine l_sld (k := (4 * k) + 3) hx hb hX hbl hw (by omega) hL dL_law_253 ?_
    refine l_mi (rest := []) ⟨hx, hb, hml, hown, hts⟩ (cm_write l D om cB M u v (xs (4 * k + 3)) hu hv) (cwlm_write hts ⟨by decide, by decide⟩) hw rfl hl.1 rfl (Nat.le_of_ble_eq_true rfl) dL_law_254 hf1 (fun H locs hw => ?_)
    refine lv_istore (lv' := [(6, .int ((mWr (zF M 4 0) u v (xs (4 * k + 3))).2 1 - M.2 1)), (5, .int 0), (4, .int (nI (4 * k))), (0, .ref b), (1, .ref (ox 0)), (2, .ref (om 0)), (3, .ref q)]) hx hb dL_law_257 hl (by decide) rfl (fun ls hl => ?_)
    refine lv_aload_n hx hb dL_law_259 rfl (lv_at hl 5 rfl) ?_
    refine l_mi (rest := []) ⟨hx, hb, hml, hown, hts⟩ (cm_thrown l D om cB (mWr (zF M 4 0) u v (xs (4 * k + 3)))) (cwlm_thrown hts ⟨by decide, by decide⟩) hw rfl hl.1 rfl (Nat.le_of_ble_eq_true rfl) dL_law_260 hf1 (fun H locs hw => ?_)
    refine lv_iload hx hb dL_law_263 (lv_at hl 1 rfl) ?_
    refine lv_icmp_eq (tgt := 270) hx hb dL_law_265 (by decide) (fun _ => ?_) (fun h9 => absurd ((mWr_4 _ _ _ _).trans (zF_s _ _ _)) h9)
    refine lv_iload hx hb dL_law_270 (lv_at hl 1 rfl) ?_
    refine lv_if_ne (tgt := 287) hx hb dL_law_272 (by decide) (fun h9 => absurd h9 (by decide)) (fun _ => ?_)
    refine lv_aload_n hx hb dL_law_275 rfl (lv_at hl 6 rfl) ?_
    refine lv_iconst (v := 0) hx hb dL_law_276 (by decide) ?_
    refine l_lald hx hb hw dL_law_277 ?_
    refine lv_iload hx hb dL_law_278 (lv_at hl 0 rfl) ?_
    refine lv_i2l (v := (((mWr (zF M 4 0) u v (xs (4 * k + 3))).2 1 - M.2 1)).toInt64) hx hb dL_law_280 rfl ?_
    refine W.lcmp hx hb dL_law_281 ?_
    refine lv_if_eq (tgt := 287) hx hb dL_law_282 (by decide) (fun _ => ?_) (fun h9 => absurd (by rw [pk_uLs, (rr_wr (rr_th hR 0) hu hv (xs (4 * k + 3))).1.2.2.2.2.2.2.2.1.2.1, hR.1.2.2.2.2.2.2.2.1.2.1]; exact lg_self _) h9)
    refine lv_goto (tgt := 553) hx hb dL_law_287 (by decide) ?_
    exact W.widen (k := 14 + (k + 1)) (n := 335 + 6 * (k + 1)) (by omega) (by omega) (fin _ _ _ _ _ _ (lv_sub hl [2, 3, 4, 5, 6] rfl) hw (rr_mono (rr_wr (rr_th hR 0) hu hv (xs (4 * k + 3))) (by omega)))
  · have hin := Bool.eq_false_iff.mpr hin
    refine lv_aload_n hx hb dL_law_210 rfl (lv_at hl 2 rfl) ?_
    refine lv_aload_n hx hb dL_law_211 rfl (lv_at hl 1 rfl) ?_
    refine lv_iload hx hb dL_law_212 (lv_at hl 0 rfl) ?_
    refine lv_iconst (v := 1) hx hb dL_law_214 (by decide) ?_
    refine lv_iadd hx hb dL_law_215 ?_
    refine lw_top (y := nI ((4 * k) + 1)) (nI_add (4 * k) 1) ?_
    refine l_sld (k := (4 * k) + 1) hx hb hX hbl hw (by omega) hL dL_law_216 ?_
    refine lv_aload_n hx hb dL_law_217 rfl (lv_at hl 1 rfl) ?_
    refine lv_iload hx hb dL_law_218 (lv_at hl 0 rfl) ?_
    refine lv_iconst (v := 2) hx hb dL_law_220 (by decide) ?_
    refine lv_iadd hx hb dL_law_221 ?_
    refine lw_top (y := nI ((4 * k) + 2)) (nI_add (4 * k) 2) ?_
    refine l_sld (k := (4 * k) + 2) hx hb hX hbl hw (by omega) hL dL_law_222 ?_
    refine lv_aload_n hx hb dL_law_223 rfl (lv_at hl 1 rfl) ?_
    refine lv_iload hx hb dL_law_224 (lv_at hl 0 rfl) ?_
    refine lv_iconst (v := 3) hx hb dL_law_226 (by decide) ?_
    refine lv_iadd hx hb dL_law_227 ?_
    refine lw_top (y := nI ((4 * k) + 3)) (nI_add (4 * k) 3) ?_
    refine l_sld (k := (4 * k) + 3) hx hb hX hbl hw (by omega) hL dL_law_228 ?_
    refine lv_aload_n hx hb dL_law_229 rfl (lv_at hl 4 rfl) ?_
    refine l_h (rest := []) ⟨hx, hb, hml, hown, hts⟩ (ch_write_bad l hl9 D ox cA q cL sa sb sc S z (xs (4 * k + 1)) (xs (4 * k + 2)) (xs (4 * k + 3)) hin) (cwh_write hts ⟨by decide, by decide⟩) hw hE hN rfl hl.1 rfl (Nat.le_of_ble_eq_true rfl) dL_law_230 ⟨by show 14 + k + 1 ≤ 1042; omega, by show 335 + 6 * k + 6 ≤ 8551; omega⟩ (fun H locs hw => ?_)
    refine lv_istore (lv' := [(5, .int 1), (4, .int (nI (4 * k))), (0, .ref b), (1, .ref (ox 0)), (2, .ref (om 0)), (3, .ref q)]) hx hb dL_law_233 hl (by decide) rfl (fun ls hl => ?_)
    refine lv_aload_n hx hb dL_law_235 rfl (lv_at hl 4 rfl) ?_
    refine lv_aload_n hx hb dL_law_236 rfl (lv_at hl 2 rfl) ?_
    refine lv_iload hx hb dL_law_237 (lv_at hl 1 rfl) ?_
    refine lv_iconst (v := 1) hx hb dL_law_239 (by decide) ?_
    refine lv_iadd hx hb dL_law_240 ?_
    refine lw_top (y := nI ((4 * k) + 1)) (nI_add (4 * k) 1) ?_
    refine l_sld (k := (4 * k) + 1) hx hb hX hbl hw (by omega) hL dL_law_241 ?_
    refine lv_aload_n hx hb dL_law_242 rfl (lv_at hl 2 rfl) ?_
    refine lv_iload hx hb dL_law_243 (lv_at hl 1 rfl) ?_
    refine lv_iconst (v := 2) hx hb dL_law_245 (by decide) ?_
    refine lv_iadd hx hb dL_law_246 ?_
    refine lw_top (y := nI ((4 * k) + 2)) (nI_add (4 * k) 2) ?_
    refine l_sld (k := (4 * k) + 2) hx hb hX hbl hw (by omega) hL dL_law_247 ?_
    refine lv_aload_n hx hb dL_law_248 rfl (lv_at hl 2 rfl) ?_
    refine lv_iload hx hb dL_law_249 (lv_at hl 1 rfl) ?_
    refine lv_iconst (v := 3) hx hb dL_law_251 (by decide) ?_
    refine lv_iadd hx hb dL_law_252 ?_
    refine lw_top (y := nI ((4 * k) + 3)) (nI_add (4 * k) 3) ?_
    refine l_sld (k := (4 * k) + 3) hx hb hX hbl hw (by omega) hL dL_law_253 ?_
    refine l_mi (rest := []) ⟨hx, hb, hml, hown, hts⟩ (cm_write_bad l D om cB M (xs (4 * k + 1)) (xs (4 * k + 2)) (xs (4 * k + 3)) (by rw [bad_eq]; exact hin)) (cwlm_write_bad hts ⟨by decide, by decide⟩) hw rfl hl.1 rfl (Nat.le_of_ble_eq_true rfl) dL_law_254 hf1 (fun H locs hw => ?_)
    refine lv_istore (lv' := [(6, .int 0), (5, .int 1), (4, .int (nI (4 * k))), (0, .ref b), (1, .ref (ox 0)), (2, .ref (om 0)), (3, .ref q)]) hx hb dL_law_257 hl (by decide) rfl (fun ls hl => ?_)
    refine lv_aload_n hx hb dL_law_259 rfl (lv_at hl 5 rfl) ?_
    refine l_mi (rest := []) ⟨hx, hb, hml, hown, hts⟩ (cm_thrown l D om cB (zF M 4 1)) (cwlm_thrown hts ⟨by decide, by decide⟩) hw rfl hl.1 rfl (Nat.le_of_ble_eq_true rfl) dL_law_260 hf1 (fun H locs hw => ?_)
    refine lv_iload hx hb dL_law_263 (lv_at hl 1 rfl) ?_
    refine lv_icmp_eq (tgt := 270) hx hb dL_law_265 (by decide) (fun _ => ?_) (fun h9 => absurd (zF_s _ _ _) h9)
    refine lv_iload hx hb dL_law_270 (lv_at hl 1 rfl) ?_
    refine lv_if_ne (tgt := 287) hx hb dL_law_272 (by decide) (fun _ => ?_) (fun h9 => absurd h9 (by decide))
    refine lv_goto (tgt := 553) hx hb dL_law_287 (by decide) ?_
    exact W.widen (k := 14 + (k + 1)) (n := 335 + 6 * (k + 1)) (by omega) (by omega) (fin _ _ _ _ _ _ (lv_sub hl [2, 3, 4, 5, 6] rfl) hw (rr_mono (rr_th hR 1) (by omega)))
set_option maxRecDepth 100000 in
set_option maxHeartbeats 4000000 in
theorem law_4 {P0 : Program} {e : Env} {s : State} {m : MethodId} {below : List Frame} {meth : Method} {c : Code} (l : Launch) (hl9 : l.stackTraces = false) {b L : Nat} {xs : Nat → Int32} (hL : L ≤ 2048) (hx : P0.tables.exec = Jvm.exec) (hb : c.code = code) (hml : c.maxLocals = 7) (hown : s.vm.findClass RL = some m.cls) (hts : ∀ w ∈ GT, w.before #[Value.ref b] s = true) (hX : va_X b L xs s s.heap) (hbl : b < s.heap.size)
    {D : va_G} {ox om : Nat → Nat} {cA cB cL : ClassId} {q sa sb sc : Nat} (hE : EN (lA s) sa sb sc s s.heap) (hN : va_Nc "java/lang/IllegalStateException" "java/lang/IllegalArgumentException" s) {Q : State → Prop} {k : Nat} (hk : 4 * k + 4 ≤ L) {S M : SX} {z : Nat → Int64} {H : Heap} {locs : List Loc} {ls : Array Slot} (hl : lv_has ls 7 [(4, .int (nI (4 * k))), (0, .ref b), (1, .ref (ox 0)), (2, .ref (om 0)), (3, .ref q)]) (hw : LW D ox om cA cB q cL z s S M H locs) (hR : RR (8 * k) S M) (fin : (∀ (S M : SX) (z : Nat → Int64) (H : Heap) (locs : List Loc) (ls : Array Slot), lv_has ls 7 [(4, .int (nI (4 * k))), (0, .ref b), (1, .ref (ox 0)), (2, .ref (om 0)), (3, .ref q)] → LW D ox om cA cB q cL z s S M H locs → RR (8 * k + 8) S M → W P0 l e room_1 s m #[Value.ref b] below meth c H locs (14 + (k + 1)) (335 + 6 * (k + 1)) Q (F0 m 553 ls []))) : W P0 l e room_1 s m #[Value.ref b] below meth c H locs (14 + k) (335 + 6 * k) Q (F0 m 290 ls []) := by
  have hf : 14 + k ≤ room_1.cells ∧ 335 + 6 * k ≤ room_1.slots := ⟨by show 14 + k ≤ 1042; omega, by show 335 + 6 * k ≤ 8551; omega⟩
  have hf1 : 14 + k + 1 ≤ room_1.cells ∧ 335 + 6 * k + 6 ≤ room_1.slots := ⟨by show 14 + k + 1 ≤ 1042; omega, by show 335 + 6 * k + 6 ≤ 8551; omega⟩
  by_cases hin : (inR (xs (4 * k + 1)) 4 && inR (xs (4 * k + 2)) 16) = true
  · obtain ⟨u, v, hu, hv, e1, e2⟩ := two_in (a := 4) (b := 16) (by decide) (by decide) hin
    by_cases hh : xHo S u v = true
    · refine lv_aload_n hx hb dL_law_290 rfl (lv_at hl 2 rfl) ?_
      refine lv_aload_n hx hb dL_law_291 rfl (lv_at hl 1 rfl) ?_
      refine lv_iload hx hb dL_law_292 (lv_at hl 0 rfl) ?_
      refine lv_iconst (v := 1) hx hb dL_law_294 (by decide) ?_
      refine lv_iadd hx hb dL_law_295 ?_
      refine lw_top (y := nI ((4 * k) + 1)) (nI_add (4 * k) 1) ?_
      refine l_sld (k := (4 * k) + 1) hx hb hX hbl hw (by omega) hL dL_law_296 ?_
      refine lw_top (y := nI u) e1 ?_
      refine lv_aload_n hx hb dL_law_297 rfl (lv_at hl 1 rfl) ?_
      refine lv_iload hx hb dL_law_298 (lv_at hl 0 rfl) ?_
      refine lv_iconst (v := 2) hx hb dL_law_300 (by decide) ?_
      refine lv_iadd hx hb dL_law_301 ?_
      refine lw_top (y := nI ((4 * k) + 2)) (nI_add (4 * k) 2) ?_
      refine l_sld (k := (4 * k) + 2) hx hb hX hbl hw (by omega) hL dL_law_302 ?_
      refine lw_top (y := nI v) e2 ?_
      refine lv_aload_n hx hb dL_law_303 rfl (lv_at hl 4 rfl) ?_
      refine l_h (rest := []) ⟨hx, hb, hml, hown, hts⟩ (ch_evict l hl9 D ox cA q cL sa sb sc S z u v hu hv (ra_okB hR.1) hh) (cwh_evict hts ⟨by decide, by decide⟩) hw hE hN rfl hl.1 rfl (Nat.le_of_ble_eq_true rfl) dL_law_304 ⟨by show 14 + k + 1 ≤ 1042; omega, by show 335 + 6 * k + 6 ≤ 8551; omega⟩ (fun H locs hw => ?_)
      refine lv_istore (lv' := [(5, .int 0), (4, .int (nI (4 * k))), (0, .ref b), (1, .ref (ox 0)), (2, .ref (om 0)), (3, .ref q)]) hx hb dL_law_307 hl (by decide) rfl (fun ls hl => ?_)
      refine lv_aload_n hx hb dL_law_309 rfl (lv_at hl 4 rfl) ?_
      refine lv_aload_n hx hb dL_law_310 rfl (lv_at hl 2 rfl) ?_
      refine lv_iload hx hb dL_law_311 (lv_at hl 1 rfl) ?_
      refine lv_iconst (v := 1) hx hb dL_law_313 (by decide) ?_
      refine lv_iadd hx hb dL_law_314 ?_
      refine lw_top (y := nI ((4 * k) + 1)) (nI_add (4 * k) 1) ?_
      refine l_sld (k := (4 * k) + 1) hx hb hX hbl hw (by omega) hL dL_law_315 ?_
      refine lw_top (y := nI u) e1 ?_
      refine lv_aload_n hx hb dL_law_316 rfl (lv_at hl 2 rfl) ?_
      refine lv_iload hx hb dL_law_317 (lv_at hl 1 rfl) ?_
      refine lv_iconst (v := 2) hx hb dL_law_319 (by decide) ?_
      refine lv_iadd hx hb dL_law_320 ?_
      refine lw_top (y := nI ((4 * k) + 2)) (nI_add (4 * k) 2) ?_
      refine l_sld (k := (4 * k) + 2) hx hb hX hbl hw (by omega) hL dL_law_321 ?_
      refine lw_top (y := nI v) e2 ?_
      refine l_mi (rest := []) ⟨hx, hb, hml, hown, hts⟩ (cm_evict l D om cB M u v hu hv ((ra_held hR.1 hu hv).mp hh)) (cwlm_evict hts ⟨by decide, by decide⟩) hw rfl hl.1 rfl (Nat.le_of_ble_eq_true rfl) dL_law_322 hf1 (fun H locs hw => ?_)
      refine lv_istore (lv' := [(6, .int (bI (mDi (M.1 0 (16 * u + v))))), (5, .int 0), (4, .int (nI (4 * k))), (0, .ref b), (1, .ref (ox 0)), (2, .ref (om 0)), (3, .ref q)]) hx hb dL_law_325 hl (by decide) rfl (fun ls hl => ?_)
      refine lv_aload_n hx hb dL_law_327 rfl (lv_at hl 5 rfl) ?_
      refine l_mi (rest := []) ⟨hx, hb, hml, hown, hts⟩ (cm_thrown l D om cB (mEm (zF M 4 0) u v)) (cwlm_thrown hts ⟨by decide, by decide⟩) hw rfl hl.1 rfl (Nat.le_of_ble_eq_true rfl) dL_law_328 hf1 (fun H locs hw => ?_)
      refine lv_iload hx hb dL_law_331 (lv_at hl 1 rfl) ?_
      refine lv_icmp_eq (tgt := 338) hx hb dL_law_333 (by decide) (fun _ => ?_) (fun h9 => absurd ((mEm_4 _ _ _).trans (zF_s _ _ _)) h9)
      refine lv_iload hx hb dL_law_338 (lv_at hl 1 rfl) ?_
      refine lv_if_ne (tgt := 362) hx hb dL_law_340 (by decide) (fun h9 => absurd h9 (by decide)) (fun _ => ?_)
      refine lv_aload_n hx hb dL_law_343 rfl (lv_at hl 6 rfl) ?_
      refine lv_iconst (v := 0) hx hb dL_law_344 (by decide) ?_
      refine l_lald hx hb hw dL_law_345 ?_
      refine lv_iload hx hb dL_law_346 (lv_at hl 0 rfl) ?_
      refine lv_if_eq (tgt := 355) hx hb dL_law_348 (by decide) (fun g1 => ?_) (fun g1 => ?_)
      · have g1 := bI_z.mp g1
        refine lv_lconst (v := 0) hx hb dL_law_355 (by decide) ?_
        refine W.lcmp hx hb dL_law_356 ?_
        refine lv_if_eq (tgt := 362) hx hb dL_law_357 (by decide) (fun _ => ?_) (fun h9 => absurd (by rw [pk_uLs, (rr_ev hR hu hv hh).2, g1]; exact lg_self _) h9)
        refine lv_goto (tgt := 553) hx hb dL_law_362 (by decide) ?_
        exact W.widen (k := 14 + (k + 1)) (n := 335 + 6 * (k + 1)) (by omega) (by omega) (fin _ _ _ _ _ _ (lv_sub hl [2, 3, 4, 5, 6] rfl) hw (rr_mono (rr_ev (rr_th hR 0) hu hv hh).1 (by omega)))
      · have g1 := bI_n.mp g1
        refine lv_lconst (v := 1) hx hb dL_law_351 (by decide) ?_
        refine lv_goto (tgt := 356) hx hb dL_law_352 (by decide) ?_
        refine W.lcmp hx hb dL_law_356 ?_
        refine lv_if_eq (tgt := 362) hx hb dL_law_357 (by decide) (fun _ => ?_) (fun h9 => absurd (by rw [pk_uLs, (rr_ev hR hu hv hh).2, g1]; exact lg_self _) h9)
        refine lv_goto (tgt := 553) hx hb dL_law_362 (by decide) ?_
        exact W.widen (k := 14 + (k + 1)) (n := 335 + 6 * (k + 1)) (by omega) (by omega) (fin _ _ _ _ _ _ (lv_sub hl [2, 3, 4, 5, 6] rfl) hw (rr_mono (rr_ev (rr_th hR 0) hu hv hh).1 (by omega)))
    · refine lv_aload_n hx hb dL_law_290 rfl (lv_at hl 2 rfl) ?_
      refine lv_aload_n hx hb dL_law_291 rfl (lv_at hl 1 rfl) ?_
      refine lv_iload hx hb dL_law_292 (lv_at hl 0 rfl) ?_
      refine lv_iconst (v := 1) hx hb dL_law_294 (by decide) ?_
      refine lv_iadd hx hb dL_law_295 ?_
      refine lw_top (y := nI ((4 * k) + 1)) (nI_add (4 * k) 1) ?_
      refine l_sld (k := (4 * k) + 1) hx hb hX hbl hw (by omega) hL dL_law_296 ?_
      refine lw_top (y := nI u) e1 ?_
      refine lv_aload_n hx hb dL_law_297 rfl (lv_at hl 1 rfl) ?_
      refine lv_iload hx hb dL_law_298 (lv_at hl 0 rfl) ?_
      refine lv_iconst (v := 2) hx hb dL_law_300 (by decide) ?_
      refine lv_iadd hx hb dL_law_301 ?_
      refine lw_top (y := nI ((4 * k) + 2)) (nI_add (4 * k) 2) ?_
      refine l_sld (k := (4 * k) + 2) hx hb hX hbl hw (by omega) hL dL_law_302 ?_
      refine lw_top (y := nI v) e2 ?_
      refine lv_aload_n hx hb dL_law_303 rfl (lv_at hl 4 rfl) ?_
      refine l_h (rest := []) ⟨hx, hb, hml, hown, hts⟩ (ch_evict_no l hl9 D ox cA q cL sa sb sc S z u v hu hv (Bool.eq_false_iff.mpr hh)) (cwh_evict hts ⟨by decide, by decide⟩) hw hE hN rfl hl.1 rfl (Nat.le_of_ble_eq_true rfl) dL_law_304 ⟨by show 14 + k + 1 ≤ 1042; omega, by show 335 + 6 * k + 6 ≤ 8551; omega⟩ (fun H locs hw => ?_)
      refine lv_istore (lv' := [(5, .int 2), (4, .int (nI (4 * k))), (0, .ref b), (1, .ref (ox 0)), (2, .ref (om 0)), (3, .ref q)]) hx hb dL_law_307 hl (by decide) rfl (fun ls hl => ?_)
      refine lv_aload_n hx hb dL_law_309 rfl (lv_at hl 4 rfl) ?_
      refine lv_aload_n hx hb dL_law_310 rfl (lv_at hl 2 rfl) ?_
      refine lv_iload hx hb dL_law_311 (lv_at hl 1 rfl) ?_
      refine lv_iconst (v := 1) hx hb dL_law_313 (by decide) ?_
      refine lv_iadd hx hb dL_law_314 ?_
      refine lw_top (y := nI ((4 * k) + 1)) (nI_add (4 * k) 1) ?_
      refine l_sld (k := (4 * k) + 1) hx hb hX hbl hw (by omega) hL dL_law_315 ?_
      refine lw_top (y := nI u) e1 ?_
      refine lv_aload_n hx hb dL_law_316 rfl (lv_at hl 2 rfl) ?_
      refine lv_iload hx hb dL_law_317 (lv_at hl 1 rfl) ?_
      refine lv_iconst (v := 2) hx hb dL_law_319 (by decide) ?_
      refine lv_iadd hx hb dL_law_320 ?_
      refine lw_top (y := nI ((4 * k) + 2)) (nI_add (4 * k) 2) ?_
      refine l_sld (k := (4 * k) + 2) hx hb hX hbl hw (by omega) hL dL_law_321 ?_
      refine lw_top (y := nI v) e2 ?_
      refine l_mi (rest := []) ⟨hx, hb, hml, hown, hts⟩ (cm_evict_no l D om cB M u v hu hv (Classical.byContradiction fun h9 => hh ((ra_held hR.1 hu hv).mpr h9))) (cwlm_evict_no hts ⟨by decide, by decide⟩) hw rfl hl.1 rfl (Nat.le_of_ble_eq_true rfl) dL_law_322 hf1 (fun H locs hw => ?_)
      refine lv_istore (lv' := [(6, .int (bI false)), (5, .int 2), (4, .int (nI (4 * k))), (0, .ref b), (1, .ref (ox 0)), (2, .ref (om 0)), (3, .ref q)]) hx hb dL_law_325 hl (by decide) rfl (fun ls hl => ?_)
      refine lv_aload_n hx hb dL_law_327 rfl (lv_at hl 5 rfl) ?_
      refine l_mi (rest := []) ⟨hx, hb, hml, hown, hts⟩ (cm_thrown l D om cB (zF M 4 2)) (cwlm_thrown hts ⟨by decide, by decide⟩) hw rfl hl.1 rfl (Nat.le_of_ble_eq_true rfl) dL_law_328 hf1 (fun H locs hw => ?_)
      refine lv_iload hx hb dL_law_331 (lv_at hl 1 rfl) ?_
      refine lv_icmp_eq (tgt := 338) hx hb dL_law_333 (by decide) (fun _ => ?_) (fun h9 => absurd (zF_s _ _ _) h9)
      refine lv_iload hx hb dL_law_338 (lv_at hl 1 rfl) ?_
      refine lv_if_ne (tgt := 362) hx hb dL_law_340 (by decide) (fun _ => ?_) (fun h9 => absurd h9 (by decide))
      refine lv_goto (tgt := 553) hx hb dL_law_362 (by decide) ?_
      exact W.widen (k := 14 + (k + 1)) (n := 335 + 6 * (k + 1)) (by omega) (by omega) (fin _ _ _ _ _ _ (lv_sub hl [2, 3, 4, 5, 6] rfl) hw (rr_mono (rr_th hR 2) (by omega)))
  · refine lv_aload_n hx hb dL_law_290 rfl (lv_at hl 2 rfl) ?_
    refine lv_aload_n hx hb dL_law_291 rfl (lv_at hl 1 rfl) ?_
    refine lv_iload hx hb dL_law_292 (lv_at hl 0 rfl) ?_
    refine lv_iconst (v := 1) hx hb dL_law_294 (by decide) ?_
    refine lv_iadd hx hb dL_law_295 ?_
    refine lw_top (y := nI ((4 * k) + 1)) (nI_add (4 * k) 1) ?_
    refine l_sld (k := (4 * k) + 1) hx hb hX hbl hw (by omega) hL dL_law_296 ?_
    refine lv_aload_n hx hb dL_law_297 rfl (lv_at hl 1 rfl) ?_
    refine lv_iload hx hb dL_law_298 (lv_at hl 0 rfl) ?_
    refine lv_iconst (v := 2) hx hb dL_law_300 (by decide) ?_
    refine lv_iadd hx hb dL_law_301 ?_
    refine lw_top (y := nI ((4 * k) + 2)) (nI_add (4 * k) 2) ?_
    refine l_sld (k := (4 * k) + 2) hx hb hX hbl hw (by omega) hL dL_law_302 ?_
    refine lv_aload_n hx hb dL_law_303 rfl (lv_at hl 4 rfl) ?_
    refine l_h (rest := []) ⟨hx, hb, hml, hown, hts⟩ (ch_evict_bad l hl9 D ox cA q cL sa sb sc S z (xs (4 * k + 1)) (xs (4 * k + 2)) (Bool.eq_false_iff.mpr hin)) (cwh_evict hts ⟨by decide, by decide⟩) hw hE hN rfl hl.1 rfl (Nat.le_of_ble_eq_true rfl) dL_law_304 ⟨by show 14 + k + 1 ≤ 1042; omega, by show 335 + 6 * k + 6 ≤ 8551; omega⟩ (fun H locs hw => ?_)
    refine lv_istore (lv' := [(5, .int 1), (4, .int (nI (4 * k))), (0, .ref b), (1, .ref (ox 0)), (2, .ref (om 0)), (3, .ref q)]) hx hb dL_law_307 hl (by decide) rfl (fun ls hl => ?_)
    refine lv_aload_n hx hb dL_law_309 rfl (lv_at hl 4 rfl) ?_
    refine lv_aload_n hx hb dL_law_310 rfl (lv_at hl 2 rfl) ?_
    refine lv_iload hx hb dL_law_311 (lv_at hl 1 rfl) ?_
    refine lv_iconst (v := 1) hx hb dL_law_313 (by decide) ?_
    refine lv_iadd hx hb dL_law_314 ?_
    refine lw_top (y := nI ((4 * k) + 1)) (nI_add (4 * k) 1) ?_
    refine l_sld (k := (4 * k) + 1) hx hb hX hbl hw (by omega) hL dL_law_315 ?_
    refine lv_aload_n hx hb dL_law_316 rfl (lv_at hl 2 rfl) ?_
    refine lv_iload hx hb dL_law_317 (lv_at hl 1 rfl) ?_
    refine lv_iconst (v := 2) hx hb dL_law_319 (by decide) ?_
    refine lv_iadd hx hb dL_law_320 ?_
    refine lw_top (y := nI ((4 * k) + 2)) (nI_add (4 * k) 2) ?_
    refine l_sld (k := (4 * k) + 2) hx hb hX hbl hw (by omega) hL dL_law_321 ?_
    refine l_mi (rest := []) ⟨hx, hb, hml, hown, hts⟩ (cm_evict_bad l D om cB M (xs (4 * k + 1)) (xs (4 * k + 2)) (by rw [bad_eq2]; exact Bool.eq_false_iff.mpr hin)) (cwlm_evict_bad hts ⟨by decide, by decide⟩) hw rfl hl.1 rfl (Nat.le_of_ble_eq_true rfl) dL_law_322 hf1 (fun H locs hw => ?_)
    refine lv_istore (lv' := [(6, .int (bI false)), (5, .int 1), (4, .int (nI (4 * k))), (0, .ref b), (1, .ref (ox 0)), (2, .ref (om 0)), (3, .ref q)]) hx hb dL_law_325 hl (by decide) rfl (fun ls hl => ?_)
    refine lv_aload_n hx hb dL_law_327 rfl (lv_at hl 5 rfl) ?_
    refine l_mi (rest := []) ⟨hx, hb, hml, hown, hts⟩ (cm_thrown l D om cB (zF M 4 1)) (cwlm_thrown hts ⟨by decide, by decide⟩) hw rfl hl.1 rfl (Nat.le_of_ble_eq_true rfl) dL_law_328 hf1 (fun H locs hw => ?_)
    refine lv_iload hx hb dL_law_331 (lv_at hl 1 rfl) ?_
    refine lv_icmp_eq (tgt := 338) hx hb dL_law_333 (by decide) (fun _ => ?_) (fun h9 => absurd (zF_s _ _ _) h9)
    refine lv_iload hx hb dL_law_338 (lv_at hl 1 rfl) ?_
    refine lv_if_ne (tgt := 362) hx hb dL_law_340 (by decide) (fun _ => ?_) (fun h9 => absurd h9 (by decide))
    refine lv_goto (tgt := 553) hx hb dL_law_362 (by decide) ?_
    exact W.widen (k := 14 + (k + 1)) (n := 335 + 6 * (k + 1)) (by omega) (by omega) (fin _ _ _ _ _ _ (lv_sub hl [2, 3, 4, 5, 6] rfl) hw (rr_mono (rr_th hR 1) (by omega)))
set_option maxRecDepth 100000 in
set_option maxHeartbeats 4000000 in
theorem law_5 {P0 : Program} {e : Env} {s : State} {m : MethodId} {below : List Frame} {meth : Method} {c : Code} (l : Launch) (hl9 : l.stackTraces = false) {b L : Nat} {xs : Nat → Int32} (hL : L ≤ 2048) (hx : P0.tables.exec = Jvm.exec) (hb : c.code = code) (hml : c.maxLocals = 7) (hown : s.vm.findClass RL = some m.cls) (hts : ∀ w ∈ GT, w.before #[Value.ref b] s = true) (hX : va_X b L xs s s.heap) (hbl : b < s.heap.size)
    {D : va_G} {ox om : Nat → Nat} {cA cB cL : ClassId} {q sa sb sc : Nat} (hE : EN (lA s) sa sb sc s s.heap) (hN : va_Nc "java/lang/IllegalStateException" "java/lang/IllegalArgumentException" s) {Q : State → Prop} {k : Nat} (hk : 4 * k + 4 ≤ L) {S M : SX} {z : Nat → Int64} {H : Heap} {locs : List Loc} {ls : Array Slot} (hl : lv_has ls 7 [(4, .int (nI (4 * k))), (0, .ref b), (1, .ref (ox 0)), (2, .ref (om 0)), (3, .ref q)]) (hw : LW D ox om cA cB q cL z s S M H locs) (hR : RR (8 * k) S M) (fin : (∀ (S M : SX) (z : Nat → Int64) (H : Heap) (locs : List Loc) (ls : Array Slot), lv_has ls 7 [(4, .int (nI (4 * k))), (0, .ref b), (1, .ref (ox 0)), (2, .ref (om 0)), (3, .ref q)] → LW D ox om cA cB q cL z s S M H locs → RR (8 * k + 8) S M → W P0 l e room_1 s m #[Value.ref b] below meth c H locs (14 + (k + 1)) (335 + 6 * (k + 1)) Q (F0 m 553 ls []))) : W P0 l e room_1 s m #[Value.ref b] below meth c H locs (14 + k) (335 + 6 * k) Q (F0 m 365 ls []) := by
  have hf : 14 + k ≤ room_1.cells ∧ 335 + 6 * k ≤ room_1.slots := ⟨by show 14 + k ≤ 1042; omega, by show 335 + 6 * k ≤ 8551; omega⟩
  have hf1 : 14 + k + 1 ≤ room_1.cells ∧ 335 + 6 * k + 6 ≤ room_1.slots := ⟨by show 14 + k + 1 ≤ 1042; omega, by show 335 + 6 * k + 6 ≤ 8551; omega⟩
  refine lv_aload_n hx hb dL_law_365 rfl (lv_at hl 2 rfl) ?_
  refine l_xi (rest := []) ⟨hx, hb, hml, hown, hts⟩ (cx_flush l D ox cA S (ra_okB hR.1)) (cwlx_flush hts ⟨by decide, by decide⟩) hw rfl hl.1 rfl (Nat.le_of_ble_eq_true rfl) dL_law_366 hf (fun H locs hw => ?_)
  refine lv_aload_n hx hb dL_law_369 rfl (lv_at hl 3 rfl) ?_
  refine l_mi (rest := [.int (nI ((xFlF 8 0 (S, 0)).2))]) ⟨hx, hb, hml, hown, hts⟩ (cm_flush l D om cB M) (cwlm_flush hts ⟨by decide, by decide⟩) hw rfl hl.1 rfl (Nat.le_of_ble_eq_true rfl) dL_law_370 hf (fun H locs hw => ?_)
  refine lv_icmp_eq (tgt := 553) hx hb dL_law_373 (by decide) (fun _ => ?_) (fun h9 => absurd (congrArg nI (rr_fl (rr_th hR 0)).2) h9)
  exact W.widen (k := 14 + (k + 1)) (n := 335 + 6 * (k + 1)) (by omega) (by omega) (fin _ _ _ _ _ _ (lv_sub hl [0, 1, 2, 3, 4] rfl) hw (rr_mono (rr_fl (rr_th hR 0)).1 (by omega)))
set_option maxRecDepth 100000 in
set_option maxHeartbeats 4000000 in
theorem law_6 {P0 : Program} {e : Env} {s : State} {m : MethodId} {below : List Frame} {meth : Method} {c : Code} (l : Launch) (hl9 : l.stackTraces = false) {b L : Nat} {xs : Nat → Int32} (hL : L ≤ 2048) (hx : P0.tables.exec = Jvm.exec) (hb : c.code = code) (hml : c.maxLocals = 7) (hown : s.vm.findClass RL = some m.cls) (hts : ∀ w ∈ GT, w.before #[Value.ref b] s = true) (hX : va_X b L xs s s.heap) (hbl : b < s.heap.size)
    {D : va_G} {ox om : Nat → Nat} {cA cB cL : ClassId} {q sa sb sc : Nat} (hE : EN (lA s) sa sb sc s s.heap) (hN : va_Nc "java/lang/IllegalStateException" "java/lang/IllegalArgumentException" s) {Q : State → Prop} {k : Nat} (hk : 4 * k + 4 ≤ L) {S M : SX} {z : Nat → Int64} {H : Heap} {locs : List Loc} {ls : Array Slot} (hl : lv_has ls 7 [(4, .int (nI (4 * k))), (0, .ref b), (1, .ref (ox 0)), (2, .ref (om 0)), (3, .ref q)]) (hw : LW D ox om cA cB q cL z s S M H locs) (hR : RR (8 * k) S M) (fin : (∀ (S M : SX) (z : Nat → Int64) (H : Heap) (locs : List Loc) (ls : Array Slot), lv_has ls 7 [(4, .int (nI (4 * k))), (0, .ref b), (1, .ref (ox 0)), (2, .ref (om 0)), (3, .ref q)] → LW D ox om cA cB q cL z s S M H locs → RR (8 * k + 8) S M → W P0 l e room_1 s m #[Value.ref b] below meth c H locs (14 + (k + 1)) (335 + 6 * (k + 1)) Q (F0 m 553 ls []))) : W P0 l e room_1 s m #[Value.ref b] below meth c H locs (14 + k) (335 + 6 * k) Q (F0 m 378 ls []) := by
  have hf : 14 + k ≤ room_1.cells ∧ 335 + 6 * k ≤ room_1.slots := ⟨by show 14 + k ≤ 1042; omega, by show 335 + 6 * k ≤ 8551; omega⟩
  have hf1 : 14 + k + 1 ≤ room_1.cells ∧ 335 + 6 * k + 6 ≤ room_1.slots := ⟨by show 14 + k + 1 ≤ 1042; omega, by show 335 + 6 * k + 6 ≤ 8551; omega⟩
  refine lv_aload_n hx hb dL_law_378 rfl (lv_at hl 2 rfl) ?_
  refine lv_aload_n hx hb dL_law_379 rfl (lv_at hl 1 rfl) ?_
  refine lv_iload hx hb dL_law_380 (lv_at hl 0 rfl) ?_
  refine lv_iconst (v := 1) hx hb dL_law_382 (by decide) ?_
  refine lv_iadd hx hb dL_law_383 ?_
  refine lw_top (y := nI ((4 * k) + 1)) (nI_add (4 * k) 1) ?_
  refine l_sld (k := (4 * k) + 1) hx hb hX hbl hw (by omega) hL dL_law_384 ?_
  refine lv_aload_n hx hb dL_law_385 rfl (lv_at hl 1 rfl) ?_
  refine lv_iload hx hb dL_law_386 (lv_at hl 0 rfl) ?_
  refine lv_iconst (v := 2) hx hb dL_law_388 (by decide) ?_
  refine lv_iadd hx hb dL_law_389 ?_
  refine lw_top (y := nI ((4 * k) + 2)) (nI_add (4 * k) 2) ?_
  refine l_sld (k := (4 * k) + 2) hx hb hX hbl hw (by omega) hL dL_law_390 ?_
  refine l_xi (rest := []) ⟨hx, hb, hml, hown, hts⟩ (cx_state l D ox cA S (xs (4 * k + 1)) (xs (4 * k + 2))) (cwlx_state hts ⟨by decide, by decide⟩) hw rfl hl.1 rfl (Nat.le_of_ble_eq_true rfl) dL_law_391 hf (fun H locs hw => ?_)
  refine lv_aload_n hx hb dL_law_394 rfl (lv_at hl 3 rfl) ?_
  refine lv_aload_n hx hb dL_law_395 rfl (lv_at hl 1 rfl) ?_
  refine lv_iload hx hb dL_law_396 (lv_at hl 0 rfl) ?_
  refine lv_iconst (v := 1) hx hb dL_law_398 (by decide) ?_
  refine lv_iadd hx hb dL_law_399 ?_
  refine lw_top (y := nI ((4 * k) + 1)) (nI_add (4 * k) 1) ?_
  refine l_sld (k := (4 * k) + 1) hx hb hX hbl hw (by omega) hL dL_law_400 ?_
  refine lv_aload_n hx hb dL_law_401 rfl (lv_at hl 1 rfl) ?_
  refine lv_iload hx hb dL_law_402 (lv_at hl 0 rfl) ?_
  refine lv_iconst (v := 2) hx hb dL_law_404 (by decide) ?_
  refine lv_iadd hx hb dL_law_405 ?_
  refine lw_top (y := nI ((4 * k) + 2)) (nI_add (4 * k) 2) ?_
  refine l_sld (k := (4 * k) + 2) hx hb hX hbl hw (by omega) hL dL_law_406 ?_
  refine l_mi (rest := [.int (xStV S (xs (4 * k + 1)) (xs (4 * k + 2)))]) ⟨hx, hb, hml, hown, hts⟩ (cm_state l D om cB M (xs (4 * k + 1)) (xs (4 * k + 2))) (cwlm_state hts ⟨by decide, by decide⟩) hw rfl hl.1 rfl (Nat.le_of_ble_eq_true rfl) dL_law_407 hf (fun H locs hw => ?_)
  refine lv_icmp_eq (tgt := 553) hx hb dL_law_410 (by decide) (fun _ => ?_) (fun h9 => absurd (st_eq hR.1 _ _) h9)
  exact W.widen (k := 14 + (k + 1)) (n := 335 + 6 * (k + 1)) (by omega) (by omega) (fin _ _ _ _ _ _ (lv_sub hl [0, 1, 2, 3, 4] rfl) hw (rr_mono hR (by omega)))
set_option maxRecDepth 100000 in
set_option maxHeartbeats 4000000 in
theorem law_7 {P0 : Program} {e : Env} {s : State} {m : MethodId} {below : List Frame} {meth : Method} {c : Code} (l : Launch) (hl9 : l.stackTraces = false) {b L : Nat} {xs : Nat → Int32} (hL : L ≤ 2048) (hx : P0.tables.exec = Jvm.exec) (hb : c.code = code) (hml : c.maxLocals = 7) (hown : s.vm.findClass RL = some m.cls) (hts : ∀ w ∈ GT, w.before #[Value.ref b] s = true) (hX : va_X b L xs s s.heap) (hbl : b < s.heap.size)
    {D : va_G} {ox om : Nat → Nat} {cA cB cL : ClassId} {q sa sb sc : Nat} (hE : EN (lA s) sa sb sc s s.heap) (hN : va_Nc "java/lang/IllegalStateException" "java/lang/IllegalArgumentException" s) {Q : State → Prop} {k : Nat} (hk : 4 * k + 4 ≤ L) {S M : SX} {z : Nat → Int64} {H : Heap} {locs : List Loc} {ls : Array Slot} (hl : lv_has ls 7 [(4, .int (nI (4 * k))), (0, .ref b), (1, .ref (ox 0)), (2, .ref (om 0)), (3, .ref q)]) (hw : LW D ox om cA cB q cL z s S M H locs) (hR : RR (8 * k) S M) (fin : (∀ (S M : SX) (z : Nat → Int64) (H : Heap) (locs : List Loc) (ls : Array Slot), lv_has ls 7 [(4, .int (nI (4 * k))), (0, .ref b), (1, .ref (ox 0)), (2, .ref (om 0)), (3, .ref q)] → LW D ox om cA cB q cL z s S M H locs → RR (8 * k + 8) S M → W P0 l e room_1 s m #[Value.ref b] below meth c H locs (14 + (k + 1)) (335 + 6 * (k + 1)) Q (F0 m 553 ls []))) : W P0 l e room_1 s m #[Value.ref b] below meth c H locs (14 + k) (335 + 6 * k) Q (F0 m 415 ls []) := by
  have hf : 14 + k ≤ room_1.cells ∧ 335 + 6 * k ≤ room_1.slots := ⟨by show 14 + k ≤ 1042; omega, by show 335 + 6 * k ≤ 8551; omega⟩
  have hf1 : 14 + k + 1 ≤ room_1.cells ∧ 335 + 6 * k + 6 ≤ room_1.slots := ⟨by show 14 + k + 1 ≤ 1042; omega, by show 335 + 6 * k + 6 ≤ 8551; omega⟩
  refine lv_aload_n hx hb dL_law_415 rfl (lv_at hl 2 rfl) ?_
  refine lv_aload_n hx hb dL_law_416 rfl (lv_at hl 1 rfl) ?_
  refine lv_iload hx hb dL_law_417 (lv_at hl 0 rfl) ?_
  refine lv_iconst (v := 1) hx hb dL_law_419 (by decide) ?_
  refine lv_iadd hx hb dL_law_420 ?_
  refine lw_top (y := nI ((4 * k) + 1)) (nI_add (4 * k) 1) ?_
  refine l_sld (k := (4 * k) + 1) hx hb hX hbl hw (by omega) hL dL_law_421 ?_
  refine lv_aload_n hx hb dL_law_422 rfl (lv_at hl 1 rfl) ?_
  refine lv_iload hx hb dL_law_423 (lv_at hl 0 rfl) ?_
  refine lv_iconst (v := 2) hx hb dL_law_425 (by decide) ?_
  refine lv_iadd hx hb dL_law_426 ?_
  refine lw_top (y := nI ((4 * k) + 2)) (nI_add (4 * k) 2) ?_
  refine l_sld (k := (4 * k) + 2) hx hb hX hbl hw (by omega) hL dL_law_427 ?_
  refine l_xi (rest := []) ⟨hx, hb, hml, hown, hts⟩ (cx_cached l D ox cA S (xs (4 * k + 1)) (xs (4 * k + 2))) (cwlx_cached hts ⟨by decide, by decide⟩) hw rfl hl.1 rfl (Nat.le_of_ble_eq_true rfl) dL_law_428 hf (fun H locs hw => ?_)
  refine lv_aload_n hx hb dL_law_431 rfl (lv_at hl 3 rfl) ?_
  refine lv_aload_n hx hb dL_law_432 rfl (lv_at hl 1 rfl) ?_
  refine lv_iload hx hb dL_law_433 (lv_at hl 0 rfl) ?_
  refine lv_iconst (v := 1) hx hb dL_law_435 (by decide) ?_
  refine lv_iadd hx hb dL_law_436 ?_
  refine lw_top (y := nI ((4 * k) + 1)) (nI_add (4 * k) 1) ?_
  refine l_sld (k := (4 * k) + 1) hx hb hX hbl hw (by omega) hL dL_law_437 ?_
  refine lv_aload_n hx hb dL_law_438 rfl (lv_at hl 1 rfl) ?_
  refine lv_iload hx hb dL_law_439 (lv_at hl 0 rfl) ?_
  refine lv_iconst (v := 2) hx hb dL_law_441 (by decide) ?_
  refine lv_iadd hx hb dL_law_442 ?_
  refine lw_top (y := nI ((4 * k) + 2)) (nI_add (4 * k) 2) ?_
  refine l_sld (k := (4 * k) + 2) hx hb hX hbl hw (by omega) hL dL_law_443 ?_
  refine l_mi (rest := [.int (xCaV S (xs (4 * k + 1)) (xs (4 * k + 2)))]) ⟨hx, hb, hml, hown, hts⟩ (cm_cached l D om cB M (xs (4 * k + 1)) (xs (4 * k + 2))) (cwlm_cached hts ⟨by decide, by decide⟩) hw rfl hl.1 rfl (Nat.le_of_ble_eq_true rfl) dL_law_444 hf (fun H locs hw => ?_)
  refine lv_icmp_eq (tgt := 553) hx hb dL_law_447 (by decide) (fun _ => ?_) (fun h9 => absurd (ca_eq hR.1 _ _) h9)
  exact W.widen (k := 14 + (k + 1)) (n := 335 + 6 * (k + 1)) (by omega) (by omega) (fin _ _ _ _ _ _ (lv_sub hl [0, 1, 2, 3, 4] rfl) hw (rr_mono hR (by omega)))
set_option maxRecDepth 100000 in
set_option maxHeartbeats 4000000 in
theorem law_8 {P0 : Program} {e : Env} {s : State} {m : MethodId} {below : List Frame} {meth : Method} {c : Code} (l : Launch) (hl9 : l.stackTraces = false) {b L : Nat} {xs : Nat → Int32} (hL : L ≤ 2048) (hx : P0.tables.exec = Jvm.exec) (hb : c.code = code) (hml : c.maxLocals = 7) (hown : s.vm.findClass RL = some m.cls) (hts : ∀ w ∈ GT, w.before #[Value.ref b] s = true) (hX : va_X b L xs s s.heap) (hbl : b < s.heap.size)
    {D : va_G} {ox om : Nat → Nat} {cA cB cL : ClassId} {q sa sb sc : Nat} (hE : EN (lA s) sa sb sc s s.heap) (hN : va_Nc "java/lang/IllegalStateException" "java/lang/IllegalArgumentException" s) {Q : State → Prop} {k : Nat} (hk : 4 * k + 4 ≤ L) {S M : SX} {z : Nat → Int64} {H : Heap} {locs : List Loc} {ls : Array Slot} (hl : lv_has ls 7 [(4, .int (nI (4 * k))), (0, .ref b), (1, .ref (ox 0)), (2, .ref (om 0)), (3, .ref q)]) (hw : LW D ox om cA cB q cL z s S M H locs) (hR : RR (8 * k) S M) (fin : (∀ (S M : SX) (z : Nat → Int64) (H : Heap) (locs : List Loc) (ls : Array Slot), lv_has ls 7 [(4, .int (nI (4 * k))), (0, .ref b), (1, .ref (ox 0)), (2, .ref (om 0)), (3, .ref q)] → LW D ox om cA cB q cL z s S M H locs → RR (8 * k + 8) S M → W P0 l e room_1 s m #[Value.ref b] below meth c H locs (14 + (k + 1)) (335 + 6 * (k + 1)) Q (F0 m 553 ls []))) : W P0 l e room_1 s m #[Value.ref b] below meth c H locs (14 + k) (335 + 6 * k) Q (F0 m 452 ls []) := by
  have hf : 14 + k ≤ room_1.cells ∧ 335 + 6 * k ≤ room_1.slots := ⟨by show 14 + k ≤ 1042; omega, by show 335 + 6 * k ≤ 8551; omega⟩
  have hf1 : 14 + k + 1 ≤ room_1.cells ∧ 335 + 6 * k + 6 ≤ room_1.slots := ⟨by show 14 + k + 1 ≤ 1042; omega, by show 335 + 6 * k + 6 ≤ 8551; omega⟩
  refine lv_aload_n hx hb dL_law_452 rfl (lv_at hl 2 rfl) ?_
  refine lv_aload_n hx hb dL_law_453 rfl (lv_at hl 1 rfl) ?_
  refine lv_iload hx hb dL_law_454 (lv_at hl 0 rfl) ?_
  refine lv_iconst (v := 1) hx hb dL_law_456 (by decide) ?_
  refine lv_iadd hx hb dL_law_457 ?_
  refine lw_top (y := nI ((4 * k) + 1)) (nI_add (4 * k) 1) ?_
  refine l_sld (k := (4 * k) + 1) hx hb hX hbl hw (by omega) hL dL_law_458 ?_
  refine l_xi (rest := []) ⟨hx, hb, hml, hown, hts⟩ (cx_memory l D ox cA S (xs (4 * k + 1))) (cwlx_memory hts ⟨by decide, by decide⟩) hw rfl hl.1 rfl (Nat.le_of_ble_eq_true rfl) dL_law_459 hf (fun H locs hw => ?_)
  refine lv_aload_n hx hb dL_law_462 rfl (lv_at hl 3 rfl) ?_
  refine lv_aload_n hx hb dL_law_463 rfl (lv_at hl 1 rfl) ?_
  refine lv_iload hx hb dL_law_464 (lv_at hl 0 rfl) ?_
  refine lv_iconst (v := 1) hx hb dL_law_466 (by decide) ?_
  refine lv_iadd hx hb dL_law_467 ?_
  refine lw_top (y := nI ((4 * k) + 1)) (nI_add (4 * k) 1) ?_
  refine l_sld (k := (4 * k) + 1) hx hb hX hbl hw (by omega) hL dL_law_468 ?_
  refine l_mi (rest := [.int (xMeV S (xs (4 * k + 1)))]) ⟨hx, hb, hml, hown, hts⟩ (cm_memory l D om cB M (xs (4 * k + 1))) (cwlm_memory hts ⟨by decide, by decide⟩) hw rfl hl.1 rfl (Nat.le_of_ble_eq_true rfl) dL_law_469 hf (fun H locs hw => ?_)
  refine lv_icmp_eq (tgt := 553) hx hb dL_law_472 (by decide) (fun _ => ?_) (fun h9 => absurd (me_eq hR.1 _) h9)
  exact W.widen (k := 14 + (k + 1)) (n := 335 + 6 * (k + 1)) (by omega) (by omega) (fin _ _ _ _ _ _ (lv_sub hl [0, 1, 2, 3, 4] rfl) hw (rr_mono hR (by omega)))
set_option maxRecDepth 100000 in
set_option maxHeartbeats 4000000 in
theorem law_9 {P0 : Program} {e : Env} {s : State} {m : MethodId} {below : List Frame} {meth : Method} {c : Code} (l : Launch) (hl9 : l.stackTraces = false) {b L : Nat} {xs : Nat → Int32} (hL : L ≤ 2048) (hx : P0.tables.exec = Jvm.exec) (hb : c.code = code) (hml : c.maxLocals = 7) (hown : s.vm.findClass RL = some m.cls) (hts : ∀ w ∈ GT, w.before #[Value.ref b] s = true) (hX : va_X b L xs s s.heap) (hbl : b < s.heap.size)
    {D : va_G} {ox om : Nat → Nat} {cA cB cL : ClassId} {q sa sb sc : Nat} (hE : EN (lA s) sa sb sc s s.heap) (hN : va_Nc "java/lang/IllegalStateException" "java/lang/IllegalArgumentException" s) {Q : State → Prop} {k : Nat} (hk : 4 * k + 4 ≤ L) {S M : SX} {z : Nat → Int64} {H : Heap} {locs : List Loc} {ls : Array Slot} (hl : lv_has ls 7 [(4, .int (nI (4 * k))), (0, .ref b), (1, .ref (ox 0)), (2, .ref (om 0)), (3, .ref q)]) (hw : LW D ox om cA cB q cL z s S M H locs) (hR : RR (8 * k) S M) (fin : (∀ (S M : SX) (z : Nat → Int64) (H : Heap) (locs : List Loc) (ls : Array Slot), lv_has ls 7 [(4, .int (nI (4 * k))), (0, .ref b), (1, .ref (ox 0)), (2, .ref (om 0)), (3, .ref q)] → LW D ox om cA cB q cL z s S M H locs → RR (8 * k + 8) S M → W P0 l e room_1 s m #[Value.ref b] below meth c H locs (14 + (k + 1)) (335 + 6 * (k + 1)) Q (F0 m 553 ls []))) : W P0 l e room_1 s m #[Value.ref b] below meth c H locs (14 + k) (335 + 6 * k) Q (F0 m 477 ls []) := by
  have hf : 14 + k ≤ room_1.cells ∧ 335 + 6 * k ≤ room_1.slots := ⟨by show 14 + k ≤ 1042; omega, by show 335 + 6 * k ≤ 8551; omega⟩
  have hf1 : 14 + k + 1 ≤ room_1.cells ∧ 335 + 6 * k + 6 ≤ room_1.slots := ⟨by show 14 + k + 1 ≤ 1042; omega, by show 335 + 6 * k + 6 ≤ 8551; omega⟩
  refine lv_aload_n hx hb dL_law_477 rfl (lv_at hl 2 rfl) ?_
  refine lv_aload_n hx hb dL_law_478 rfl (lv_at hl 1 rfl) ?_
  refine lv_iload hx hb dL_law_479 (lv_at hl 0 rfl) ?_
  refine lv_iconst (v := 1) hx hb dL_law_481 (by decide) ?_
  refine lv_iadd hx hb dL_law_482 ?_
  refine lw_top (y := nI ((4 * k) + 1)) (nI_add (4 * k) 1) ?_
  refine l_sld (k := (4 * k) + 1) hx hb hX hbl hw (by omega) hL dL_law_483 ?_
  refine l_xi (rest := []) ⟨hx, hb, hml, hown, hts⟩ (cx_count l D ox cA S (xs (4 * k + 1))) (cwlx_count hts ⟨by decide, by decide⟩) hw rfl hl.1 rfl (Nat.le_of_ble_eq_true rfl) dL_law_484 hf (fun H locs hw => ?_)
  refine lv_aload_n hx hb dL_law_487 rfl (lv_at hl 3 rfl) ?_
  refine lv_aload_n hx hb dL_law_488 rfl (lv_at hl 1 rfl) ?_
  refine lv_iload hx hb dL_law_489 (lv_at hl 0 rfl) ?_
  refine lv_iconst (v := 1) hx hb dL_law_491 (by decide) ?_
  refine lv_iadd hx hb dL_law_492 ?_
  refine lw_top (y := nI ((4 * k) + 1)) (nI_add (4 * k) 1) ?_
  refine l_sld (k := (4 * k) + 1) hx hb hX hbl hw (by omega) hL dL_law_493 ?_
  refine l_mi (rest := [.int (xCoV S (xs (4 * k + 1)))]) ⟨hx, hb, hml, hown, hts⟩ (cm_count l D om cB M (xs (4 * k + 1))) (cwlm_count hts ⟨by decide, by decide⟩) hw rfl hl.1 rfl (Nat.le_of_ble_eq_true rfl) dL_law_494 hf (fun H locs hw => ?_)
  refine lv_icmp_eq (tgt := 553) hx hb dL_law_497 (by decide) (fun _ => ?_) (fun h9 => absurd (cn_eq hR.1 _) h9)
  exact W.widen (k := 14 + (k + 1)) (n := 335 + 6 * (k + 1)) (by omega) (by omega) (fin _ _ _ _ _ _ (lv_sub hl [0, 1, 2, 3, 4] rfl) hw (rr_mono hR (by omega)))
set_option maxRecDepth 100000 in
set_option maxHeartbeats 4000000 in
theorem law_10 {P0 : Program} {e : Env} {s : State} {m : MethodId} {below : List Frame} {meth : Method} {c : Code} (l : Launch) (hl9 : l.stackTraces = false) {b L : Nat} {xs : Nat → Int32} (hL : L ≤ 2048) (hx : P0.tables.exec = Jvm.exec) (hb : c.code = code) (hml : c.maxLocals = 7) (hown : s.vm.findClass RL = some m.cls) (hts : ∀ w ∈ GT, w.before #[Value.ref b] s = true) (hX : va_X b L xs s s.heap) (hbl : b < s.heap.size)
    {D : va_G} {ox om : Nat → Nat} {cA cB cL : ClassId} {q sa sb sc : Nat} (hE : EN (lA s) sa sb sc s s.heap) (hN : va_Nc "java/lang/IllegalStateException" "java/lang/IllegalArgumentException" s) {Q : State → Prop} {k : Nat} (hk : 4 * k + 4 ≤ L) {S M : SX} {z : Nat → Int64} {H : Heap} {locs : List Loc} {ls : Array Slot} (hl : lv_has ls 7 [(4, .int (nI (4 * k))), (0, .ref b), (1, .ref (ox 0)), (2, .ref (om 0)), (3, .ref q)]) (hw : LW D ox om cA cB q cL z s S M H locs) (hR : RR (8 * k) S M) (fin : (∀ (S M : SX) (z : Nat → Int64) (H : Heap) (locs : List Loc) (ls : Array Slot), lv_has ls 7 [(4, .int (nI (4 * k))), (0, .ref b), (1, .ref (ox 0)), (2, .ref (om 0)), (3, .ref q)] → LW D ox om cA cB q cL z s S M H locs → RR (8 * k + 8) S M → W P0 l e room_1 s m #[Value.ref b] below meth c H locs (14 + (k + 1)) (335 + 6 * (k + 1)) Q (F0 m 553 ls []))) : W P0 l e room_1 s m #[Value.ref b] below meth c H locs (14 + k) (335 + 6 * k) Q (F0 m 502 ls []) := by
  have hf : 14 + k ≤ room_1.cells ∧ 335 + 6 * k ≤ room_1.slots := ⟨by show 14 + k ≤ 1042; omega, by show 335 + 6 * k ≤ 8551; omega⟩
  have hf1 : 14 + k + 1 ≤ room_1.cells ∧ 335 + 6 * k + 6 ≤ room_1.slots := ⟨by show 14 + k + 1 ≤ 1042; omega, by show 335 + 6 * k + 6 ≤ 8551; omega⟩
  refine lv_aload_n hx hb dL_law_502 rfl (lv_at hl 2 rfl) ?_
  refine l_xi (rest := []) ⟨hx, hb, hml, hown, hts⟩ (cx_hits l D ox cA S) (cwlx_hits hts ⟨by decide, by decide⟩) hw rfl hl.1 rfl (Nat.le_of_ble_eq_true rfl) dL_law_503 hf (fun H locs hw => ?_)
  refine lv_aload_n hx hb dL_law_506 rfl (lv_at hl 3 rfl) ?_
  refine l_mi (rest := [.int (S.2 2)]) ⟨hx, hb, hml, hown, hts⟩ (cm_hits l D om cB M) (cwlm_hits hts ⟨by decide, by decide⟩) hw rfl hl.1 rfl (Nat.le_of_ble_eq_true rfl) dL_law_507 hf (fun H locs hw => ?_)
  refine lv_icmp_eq (tgt := 553) hx hb dL_law_510 (by decide) (fun _ => ?_) (fun h9 => absurd (hR.1.2.2.2.2.2.2.2.1.2.2.1.symm) h9)
  exact W.widen (k := 14 + (k + 1)) (n := 335 + 6 * (k + 1)) (by omega) (by omega) (fin _ _ _ _ _ _ (lv_sub hl [0, 1, 2, 3, 4] rfl) hw (rr_mono hR (by omega)))
set_option maxRecDepth 100000 in
set_option maxHeartbeats 4000000 in
theorem law_11 {P0 : Program} {e : Env} {s : State} {m : MethodId} {below : List Frame} {meth : Method} {c : Code} (l : Launch) (hl9 : l.stackTraces = false) {b L : Nat} {xs : Nat → Int32} (hL : L ≤ 2048) (hx : P0.tables.exec = Jvm.exec) (hb : c.code = code) (hml : c.maxLocals = 7) (hown : s.vm.findClass RL = some m.cls) (hts : ∀ w ∈ GT, w.before #[Value.ref b] s = true) (hX : va_X b L xs s s.heap) (hbl : b < s.heap.size)
    {D : va_G} {ox om : Nat → Nat} {cA cB cL : ClassId} {q sa sb sc : Nat} (hE : EN (lA s) sa sb sc s s.heap) (hN : va_Nc "java/lang/IllegalStateException" "java/lang/IllegalArgumentException" s) {Q : State → Prop} {k : Nat} (hk : 4 * k + 4 ≤ L) {S M : SX} {z : Nat → Int64} {H : Heap} {locs : List Loc} {ls : Array Slot} (hl : lv_has ls 7 [(4, .int (nI (4 * k))), (0, .ref b), (1, .ref (ox 0)), (2, .ref (om 0)), (3, .ref q)]) (hw : LW D ox om cA cB q cL z s S M H locs) (hR : RR (8 * k) S M) (fin : (∀ (S M : SX) (z : Nat → Int64) (H : Heap) (locs : List Loc) (ls : Array Slot), lv_has ls 7 [(4, .int (nI (4 * k))), (0, .ref b), (1, .ref (ox 0)), (2, .ref (om 0)), (3, .ref q)] → LW D ox om cA cB q cL z s S M H locs → RR (8 * k + 8) S M → W P0 l e room_1 s m #[Value.ref b] below meth c H locs (14 + (k + 1)) (335 + 6 * (k + 1)) Q (F0 m 553 ls []))) : W P0 l e room_1 s m #[Value.ref b] below meth c H locs (14 + k) (335 + 6 * k) Q (F0 m 515 ls []) := by
  have hf : 14 + k ≤ room_1.cells ∧ 335 + 6 * k ≤ room_1.slots := ⟨by show 14 + k ≤ 1042; omega, by show 335 + 6 * k ≤ 8551; omega⟩
  have hf1 : 14 + k + 1 ≤ room_1.cells ∧ 335 + 6 * k + 6 ≤ room_1.slots := ⟨by show 14 + k + 1 ≤ 1042; omega, by show 335 + 6 * k + 6 ≤ 8551; omega⟩
  refine lv_aload_n hx hb dL_law_515 rfl (lv_at hl 2 rfl) ?_
  refine l_xi (rest := []) ⟨hx, hb, hml, hown, hts⟩ (cx_misses l D ox cA S) (cwlx_misses hts ⟨by decide, by decide⟩) hw rfl hl.1 rfl (Nat.le_of_ble_eq_true rfl) dL_law_516 hf (fun H locs hw => ?_)
  refine lv_aload_n hx hb dL_law_519 rfl (lv_at hl 3 rfl) ?_
  refine l_mi (rest := [.int (S.2 3)]) ⟨hx, hb, hml, hown, hts⟩ (cm_misses l D om cB M) (cwlm_misses hts ⟨by decide, by decide⟩) hw rfl hl.1 rfl (Nat.le_of_ble_eq_true rfl) dL_law_520 hf (fun H locs hw => ?_)
  refine lv_icmp_eq (tgt := 553) hx hb dL_law_523 (by decide) (fun _ => ?_) (fun h9 => absurd (hR.1.2.2.2.2.2.2.2.1.2.2.2.symm) h9)
  exact W.widen (k := 14 + (k + 1)) (n := 335 + 6 * (k + 1)) (by omega) (by omega) (fin _ _ _ _ _ _ (lv_sub hl [0, 1, 2, 3, 4] rfl) hw (rr_mono hR (by omega)))
set_option maxRecDepth 100000 in
set_option maxHeartbeats 4000000 in
theorem law_12 {P0 : Program} {e : Env} {s : State} {m : MethodId} {below : List Frame} {meth : Method} {c : Code} (l : Launch) (hl9 : l.stackTraces = false) {b L : Nat} {xs : Nat → Int32} (hL : L ≤ 2048) (hx : P0.tables.exec = Jvm.exec) (hb : c.code = code) (hml : c.maxLocals = 7) (hown : s.vm.findClass RL = some m.cls) (hts : ∀ w ∈ GT, w.before #[Value.ref b] s = true) (hX : va_X b L xs s s.heap) (hbl : b < s.heap.size)
    {D : va_G} {ox om : Nat → Nat} {cA cB cL : ClassId} {q sa sb sc : Nat} (hE : EN (lA s) sa sb sc s s.heap) (hN : va_Nc "java/lang/IllegalStateException" "java/lang/IllegalArgumentException" s) {Q : State → Prop} {k : Nat} (hk : 4 * k + 4 ≤ L) {S M : SX} {z : Nat → Int64} {H : Heap} {locs : List Loc} {ls : Array Slot} (hl : lv_has ls 7 [(4, .int (nI (4 * k))), (0, .ref b), (1, .ref (ox 0)), (2, .ref (om 0)), (3, .ref q)]) (hw : LW D ox om cA cB q cL z s S M H locs) (hR : RR (8 * k) S M) (fin : (∀ (S M : SX) (z : Nat → Int64) (H : Heap) (locs : List Loc) (ls : Array Slot), lv_has ls 7 [(4, .int (nI (4 * k))), (0, .ref b), (1, .ref (ox 0)), (2, .ref (om 0)), (3, .ref q)] → LW D ox om cA cB q cL z s S M H locs → RR (8 * k + 8) S M → W P0 l e room_1 s m #[Value.ref b] below meth c H locs (14 + (k + 1)) (335 + 6 * (k + 1)) Q (F0 m 553 ls []))) : W P0 l e room_1 s m #[Value.ref b] below meth c H locs (14 + k) (335 + 6 * k) Q (F0 m 528 ls []) := by
  have hf : 14 + k ≤ room_1.cells ∧ 335 + 6 * k ≤ room_1.slots := ⟨by show 14 + k ≤ 1042; omega, by show 335 + 6 * k ≤ 8551; omega⟩
  have hf1 : 14 + k + 1 ≤ room_1.cells ∧ 335 + 6 * k + 6 ≤ room_1.slots := ⟨by show 14 + k + 1 ≤ 1042; omega, by show 335 + 6 * k + 6 ≤ 8551; omega⟩
  refine lv_aload_n hx hb dL_law_528 rfl (lv_at hl 2 rfl) ?_
  refine lv_aload_n hx hb dL_law_529 rfl (lv_at hl 1 rfl) ?_
  refine lv_iload hx hb dL_law_530 (lv_at hl 0 rfl) ?_
  refine lv_iconst (v := 1) hx hb dL_law_532 (by decide) ?_
  refine lv_iadd hx hb dL_law_533 ?_
  refine lw_top (y := nI ((4 * k) + 1)) (nI_add (4 * k) 1) ?_
  refine l_sld (k := (4 * k) + 1) hx hb hX hbl hw (by omega) hL dL_law_534 ?_
  refine l_xi (rest := []) ⟨hx, hb, hml, hown, hts⟩ (cx_latest l D ox cA S (xs (4 * k + 1))) (cwlx_latest hts ⟨by decide, by decide⟩) hw rfl hl.1 rfl (Nat.le_of_ble_eq_true rfl) dL_law_535 hf (fun H locs hw => ?_)
  refine lv_aload_n hx hb dL_law_538 rfl (lv_at hl 3 rfl) ?_
  refine lv_aload_n hx hb dL_law_539 rfl (lv_at hl 1 rfl) ?_
  refine lv_iload hx hb dL_law_540 (lv_at hl 0 rfl) ?_
  refine lv_iconst (v := 1) hx hb dL_law_542 (by decide) ?_
  refine lv_iadd hx hb dL_law_543 ?_
  refine lw_top (y := nI ((4 * k) + 1)) (nI_add (4 * k) 1) ?_
  refine l_sld (k := (4 * k) + 1) hx hb hX hbl hw (by omega) hL dL_law_544 ?_
  refine l_mi (rest := [.int (xLaV S (xs (4 * k + 1)))]) ⟨hx, hb, hml, hown, hts⟩ (cm_latest l D om cB M (xs (4 * k + 1))) (cwlm_latest hts ⟨by decide, by decide⟩) hw rfl hl.1 rfl (Nat.le_of_ble_eq_true rfl) dL_law_545 hf (fun H locs hw => ?_)
  refine lv_icmp_eq (tgt := 553) hx hb dL_law_548 (by decide) (fun _ => ?_) (fun h9 => absurd (la_eq hR.1 (by omega) _) h9)
  exact W.widen (k := 14 + (k + 1)) (n := 335 + 6 * (k + 1)) (by omega) (by omega) (fin _ _ _ _ _ _ (lv_sub hl [0, 1, 2, 3, 4] rfl) hw (rr_mono hR (by omega)))
set_option maxRecDepth 100000 in
set_option maxHeartbeats 4000000 in
theorem law_loop {P0 : Program} {e : Env} {s : State} {m : MethodId} {below : List Frame} {meth : Method} {c : Code} (l : Launch) (hl9 : l.stackTraces = false) {b L : Nat} {xs : Nat → Int32} (hL : L ≤ 2048) (hx : P0.tables.exec = Jvm.exec) (hb : c.code = code) (hml : c.maxLocals = 7) (hown : s.vm.findClass RL = some m.cls) (hts : ∀ w ∈ GT, w.before #[Value.ref b] s = true) (hX : va_X b L xs s s.heap) (hbl : b < s.heap.size)
    {D : va_G} {ox om : Nat → Nat} {cA cB cL : ClassId} {q sa sb sc : Nat} (hE : EN (lA s) sa sb sc s s.heap) (hN : va_Nc "java/lang/IllegalStateException" "java/lang/IllegalArgumentException" s) (hr : meth.sig.returnType = ret) (hlocks : meth.locks = false) : ∀ (n k : Nat), L < 4 * k + 4 + 4 * n → 4 * k ≤ L → ∀ (S M : SX) (z : Nat → Int64) (H : Heap) (locs : List Loc) (ls : Array Slot), lv_has ls 7 [(4, .int (nI (4 * k))), (0, .ref b), (1, .ref (ox 0)), (2, .ref (om 0)), (3, .ref q)] → LW D ox om cA cB q cL z s S M H locs → RR (8 * k) S M → W P0 l e room_1 s m #[Value.ref b] below meth c H locs (14 + k) (335 + 6 * k) (lw_Z below #[Value.ref b] s) (F0 m 23 ls []) := by
  have out : ∀ (k : Nat), 4 * k ≤ L → L < 4 * k + 4 → ∀ (S M : SX) (z : Nat → Int64) (H : Heap) (locs : List Loc) (ls : Array Slot), lv_has ls 7 [(4, .int (nI (4 * k))), (0, .ref b), (1, .ref (ox 0)), (2, .ref (om 0)), (3, .ref q)] → LW D ox om cA cB q cL z s S M H locs → W P0 l e room_1 s m #[Value.ref b] below meth c H locs (14 + k) (335 + 6 * k) (lw_Z below #[Value.ref b] s) (F0 m 23 ls []) := by
    intro k hk1 hk2 S M z H locs ls hl hw
    refine lv_iload hx hb dL_law_23 (lv_at hl 0 rfl) ?_
    refine lv_aload_n hx hb dL_law_25 rfl (lv_at hl 1 rfl) ?_
    refine l_len hx hb hX hbl hw dL_law_26 ?_
    refine lv_iconst (v := 4) hx hb dL_law_27 (by decide) ?_
    refine lv_isub hx hb dL_law_28 ?_
    refine lv_icmp_gt (tgt := 559) hx hb dL_law_29 (by decide) (fun _ => ?_) (fun h9 => absurd ((l_gt hL (by omega)).mpr hk2) h9)
    refine lv_iconst (v := 1) hx hb dL_law_559 (by decide) ?_
    refine va_forget (fun a ha => hw.1.1.2.2.1.2.2 a ha) ?_
    refine W.widen (k := 1042) (n := 8551) (by omega) (by omega) ?_
    exact lw_ret hx hb hr hlocks dL_law_560
  intro n
  induction n with
  | zero =>
    intro k h1 h2 S M z H locs ls hl hw hR
    exact out k h2 (by omega) S M z H locs ls hl hw
  | succ n ih =>
    intro k h1 h2 S M z H locs ls hl hw hR
    by_cases hk : L < 4 * k + 4
    · exact out k h2 hk S M z H locs ls hl hw
    · have hk : 4 * k + 4 ≤ L := Nat.not_lt.mp hk
      have fin : (∀ (S M : SX) (z : Nat → Int64) (H : Heap) (locs : List Loc) (ls : Array Slot), lv_has ls 7 [(4, .int (nI (4 * k))), (0, .ref b), (1, .ref (ox 0)), (2, .ref (om 0)), (3, .ref q)] → LW D ox om cA cB q cL z s S M H locs → RR (8 * k + 8) S M → W P0 l e room_1 s m #[Value.ref b] below meth c H locs (14 + (k + 1)) (335 + 6 * (k + 1)) (lw_Z below #[Value.ref b] s) (F0 m 553 ls [])) := by
        intro S M z H locs ls hl hw hR
        refine lv_iinc (k := 0) (v := nI (4 * (k + 1))) (lv' := [(4, .int (nI (4 * (k + 1)))), (0, .ref b), (1, .ref (ox 0)), (2, .ref (om 0)), (3, .ref q)]) hx hb dL_law_553 hl rfl (lw_inc (4 * k) 4) (by decide) rfl (fun ls hl => ?_)
        refine lv_goto (tgt := 23) hx hb dL_law_556 (by decide) ?_
        exact ih (k + 1) (by omega) (by omega) S M z H locs ls hl hw hR
      refine lv_iload hx hb dL_law_23 (lv_at hl 0 rfl) ?_
      refine lv_aload_n hx hb dL_law_25 rfl (lv_at hl 1 rfl) ?_
      refine l_len hx hb hX hbl hw dL_law_26 ?_
      refine lv_iconst (v := 4) hx hb dL_law_27 (by decide) ?_
      refine lv_isub hx hb dL_law_28 ?_
      refine lv_icmp_gt (tgt := 559) hx hb dL_law_29 (by decide) (fun h9 => absurd ((l_gt hL (by omega)).mp h9) (by omega)) (fun _ => ?_)
      refine lv_aload_n hx hb dL_law_32 rfl (lv_at hl 1 rfl) ?_
      refine lv_iload hx hb dL_law_33 (lv_at hl 0 rfl) ?_
      refine l_sld (k := 4 * k) hx hb hX hbl hw (by omega) hL dL_law_35 ?_
      refine lv_bipush (v := 15) hx hb dL_law_36 (by decide) ?_
      refine lv_iand hx hb dL_law_38 ?_
      obtain ⟨j, hj, ej⟩ := pk_andE (xs (4 * k)) (m := 15) 4 (by decide)
      refine lw_top (y := nI j) ej ?_
      have hj : j < 16 := hj
      have hd : j = 0 ∨ j = 1 ∨ j = 2 ∨ j = 3 ∨ j = 4 ∨ j = 5 ∨ j = 6 ∨ j = 7 ∨ j = 8 ∨ j = 9 ∨ j = 10 ∨ j = 11 ∨ j = 12 ∨ j = 13 ∨ j = 14 ∨ j = 15 := by omega
      rcases hd with rfl | rfl | rfl | rfl | rfl | rfl | rfl | rfl | rfl | rfl | rfl | rfl | rfl | rfl | rfl | rfl
      · refine lv_tableIn (tgt := 104) (off := 65) hx hb dL_law_39 (by decide) (by decide) (by decide) (by decide) ?_
        exact law_0 l hl9 hL hx hb hml hown hts hX hbl hE hN hk hl hw hR fin
      · refine lv_tableIn (tgt := 129) (off := 90) hx hb dL_law_39 (by decide) (by decide) (by decide) (by decide) ?_
        exact law_1 l hl9 hL hx hb hml hown hts hX hbl hE hN hk hl hw hR fin
      · refine lv_tableIn (tgt := 142) (off := 103) hx hb dL_law_39 (by decide) (by decide) (by decide) (by decide) ?_
        exact law_2 l hl9 hL hx hb hml hown hts hX hbl hE hN hk hl hw hR fin
      · refine lv_tableIn (tgt := 210) (off := 171) hx hb dL_law_39 (by decide) (by decide) (by decide) (by decide) ?_
        exact law_3 l hl9 hL hx hb hml hown hts hX hbl hE hN hk hl hw hR fin
      · refine lv_tableIn (tgt := 290) (off := 251) hx hb dL_law_39 (by decide) (by decide) (by decide) (by decide) ?_
        exact law_4 l hl9 hL hx hb hml hown hts hX hbl hE hN hk hl hw hR fin
      · refine lv_tableIn (tgt := 365) (off := 326) hx hb dL_law_39 (by decide) (by decide) (by decide) (by decide) ?_
        exact law_5 l hl9 hL hx hb hml hown hts hX hbl hE hN hk hl hw hR fin
      · refine lv_tableIn (tgt := 378) (off := 339) hx hb dL_law_39 (by decide) (by decide) (by decide) (by decide) ?_
        exact law_6 l hl9 hL hx hb hml hown hts hX hbl hE hN hk hl hw hR fin
      · refine lv_tableIn (tgt := 415) (off := 376) hx hb dL_law_39 (by decide) (by decide) (by decide) (by decide) ?_
        exact law_7 l hl9 hL hx hb hml hown hts hX hbl hE hN hk hl hw hR fin
      · refine lv_tableIn (tgt := 452) (off := 413) hx hb dL_law_39 (by decide) (by decide) (by decide) (by decide) ?_
        exact law_8 l hl9 hL hx hb hml hown hts hX hbl hE hN hk hl hw hR fin
      · refine lv_tableIn (tgt := 477) (off := 438) hx hb dL_law_39 (by decide) (by decide) (by decide) (by decide) ?_
        exact law_9 l hl9 hL hx hb hml hown hts hX hbl hE hN hk hl hw hR fin
      · refine lv_tableIn (tgt := 502) (off := 463) hx hb dL_law_39 (by decide) (by decide) (by decide) (by decide) ?_
        exact law_10 l hl9 hL hx hb hml hown hts hX hbl hE hN hk hl hw hR fin
      · refine lv_tableIn (tgt := 515) (off := 476) hx hb dL_law_39 (by decide) (by decide) (by decide) (by decide) ?_
        exact law_11 l hl9 hL hx hb hml hown hts hX hbl hE hN hk hl hw hR fin
      · refine lv_tableIn (tgt := 528) (off := 489) hx hb dL_law_39 (by decide) (by decide) (by decide) (by decide) ?_
        exact law_12 l hl9 hL hx hb hml hown hts hX hbl hE hN hk hl hw hR fin
      · refine lv_tableOut (tgt := 553) hx hb dL_law_39 (Or.inr (by decide)) (by decide) ?_
        exact W.widen (k := 14 + (k + 1)) (n := 335 + 6 * (k + 1)) (by omega) (by omega) (fin _ _ _ _ _ _ hl hw (rr_mono hR (by omega)))
      · refine lv_tableOut (tgt := 553) hx hb dL_law_39 (Or.inr (by decide)) (by decide) ?_
        exact W.widen (k := 14 + (k + 1)) (n := 335 + 6 * (k + 1)) (by omega) (by omega) (fin _ _ _ _ _ _ hl hw (rr_mono hR (by omega)))
      · refine lv_tableOut (tgt := 553) hx hb dL_law_39 (Or.inr (by decide)) (by decide) ?_
        exact W.widen (k := 14 + (k + 1)) (n := 335 + 6 * (k + 1)) (by omega) (by omega) (fin _ _ _ _ _ _ hl hw (rr_mono hR (by omega)))
