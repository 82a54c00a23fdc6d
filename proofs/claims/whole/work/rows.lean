section
-- ===== PART A: goes FIRST, ahead of the names: the tables' words, and 'selects' of the private methods out of them =====
/-- a private method of a class that the tables say can be made, by its rows of tables_1 -/
def lw_okq (q : MethodName × Nat) : Prop := (q.1.cls ≠ "java/lang/invoke/MethodHandle" ∧ q.1.cls ≠ "java/lang/invoke/VarHandle") ∧ Cond.instantiable q.1.cls q.2 ∈ tables_1 ∧ Cond.privateMethod q.1 ∈ tables_1 ∧ Cond.instanceMethod q.1 ∈ tables_1
theorem lw_p0 : lw_okq (⟨"SnoopBus", "startOver", "(I)V"⟩, 10) := ⟨⟨by decide +kernel, by decide +kernel⟩, List.mem_of_getElem? (i := 11) (by decide +kernel), List.mem_of_getElem? (i := 19) (by decide +kernel), List.mem_of_getElem? (i := 20) (by decide +kernel)⟩
theorem lw_p1 : lw_okq (⟨"SnoopBus", "emptyLine", "(I)Z"⟩, 10) := ⟨⟨by decide +kernel, by decide +kernel⟩, List.mem_of_getElem? (i := 11) (by decide +kernel), List.mem_of_getElem? (i := 70) (by decide +kernel), List.mem_of_getElem? (i := 71) (by decide +kernel)⟩
theorem lw_p2 : lw_okq (⟨"SnoopBus", "transact", "(III)V"⟩, 10) := ⟨⟨by decide +kernel, by decide +kernel⟩, List.mem_of_getElem? (i := 11) (by decide +kernel), List.mem_of_getElem? (i := 77) (by decide +kernel), List.mem_of_getElem? (i := 78) (by decide +kernel)⟩
theorem lw_p3 : lw_okq (⟨"SnoopBus", "copyToMemory", "(I)V"⟩, 10) := ⟨⟨by decide +kernel, by decide +kernel⟩, List.mem_of_getElem? (i := 11) (by decide +kernel), List.mem_of_getElem? (i := 81) (by decide +kernel), List.mem_of_getElem? (i := 82) (by decide +kernel)⟩
theorem lw_p4 : lw_okq (⟨"SnoopBus", "holds", "(II)Z"⟩, 10) := ⟨⟨by decide +kernel, by decide +kernel⟩, List.mem_of_getElem? (i := 11) (by decide +kernel), List.mem_of_getElem? (i := 98) (by decide +kernel), List.mem_of_getElem? (i := 99) (by decide +kernel)⟩
theorem lw_p5 : lw_okq (⟨"java/lang/Throwable", "fillInStackTrace", "(I)Ljava/lang/Throwable;"⟩, 6) := ⟨⟨by decide +kernel, by decide +kernel⟩, List.mem_of_getElem? (i := 183) (by decide +kernel), List.mem_of_getElem? (i := 181) (by decide +kernel), List.mem_of_getElem? (i := 182) (by decide +kernel)⟩
theorem lw_p6 : lw_okq (⟨"SnoopBus", "bringIn", "(III)V"⟩, 10) := ⟨⟨by decide +kernel, by decide +kernel⟩, List.mem_of_getElem? (i := 11) (by decide +kernel), List.mem_of_getElem? (i := 213) (by decide +kernel), List.mem_of_getElem? (i := 214) (by decide +kernel)⟩
theorem lw_p7 : lw_okq (⟨"SnoopBus", "load", "(III)V"⟩, 10) := ⟨⟨by decide +kernel, by decide +kernel⟩, List.mem_of_getElem? (i := 11) (by decide +kernel), List.mem_of_getElem? (i := 217) (by decide +kernel), List.mem_of_getElem? (i := 218) (by decide +kernel)⟩
theorem lw_p8 : lw_okq (⟨"SnoopBus", "fetchWords", "(II)V"⟩, 10) := ⟨⟨by decide +kernel, by decide +kernel⟩, List.mem_of_getElem? (i := 11) (by decide +kernel), List.mem_of_getElem? (i := 221) (by decide +kernel), List.mem_of_getElem? (i := 222) (by decide +kernel)⟩
theorem lw_p9 : lw_okq (⟨"SnoopBus", "dirtyLine", "(I)I"⟩, 10) := ⟨⟨by decide +kernel, by decide +kernel⟩, List.mem_of_getElem? (i := 11) (by decide +kernel), List.mem_of_getElem? (i := 225) (by decide +kernel), List.mem_of_getElem? (i := 226) (by decide +kernel)⟩
theorem lw_p10 : lw_okq (⟨"SnoopBus", "dropOthers", "(II)V"⟩, 10) := ⟨⟨by decide +kernel, by decide +kernel⟩, List.mem_of_getElem? (i := 11) (by decide +kernel), List.mem_of_getElem? (i := 229) (by decide +kernel), List.mem_of_getElem? (i := 230) (by decide +kernel)⟩
theorem lw_p11 : lw_okq (⟨"SnoopBus", "shareWithOthers", "(II)I"⟩, 10) := ⟨⟨by decide +kernel, by decide +kernel⟩, List.mem_of_getElem? (i := 11) (by decide +kernel), List.mem_of_getElem? (i := 233) (by decide +kernel), List.mem_of_getElem? (i := 234) (by decide +kernel)⟩
theorem lw_p12 : lw_okq (⟨"SnoopBus", "yieldToReader", "(I)V"⟩, 10) := ⟨⟨by decide +kernel, by decide +kernel⟩, List.mem_of_getElem? (i := 11) (by decide +kernel), List.mem_of_getElem? (i := 237) (by decide +kernel), List.mem_of_getElem? (i := 238) (by decide +kernel)⟩
theorem lw_p13 : lw_okq (⟨"SnoopBus", "updates", "()Z"⟩, 10) := ⟨⟨by decide +kernel, by decide +kernel⟩, List.mem_of_getElem? (i := 11) (by decide +kernel), List.mem_of_getElem? (i := 248) (by decide +kernel), List.mem_of_getElem? (i := 249) (by decide +kernel)⟩
theorem lw_p14 : lw_okq (⟨"SnoopBus", "tellOthers", "(III)V"⟩, 10) := ⟨⟨by decide +kernel, by decide +kernel⟩, List.mem_of_getElem? (i := 11) (by decide +kernel), List.mem_of_getElem? (i := 252) (by decide +kernel), List.mem_of_getElem? (i := 253) (by decide +kernel)⟩
theorem lw_p15 : lw_okq (⟨"SnoopBus", "updateOthers", "(III)Z"⟩, 10) := ⟨⟨by decide +kernel, by decide +kernel⟩, List.mem_of_getElem? (i := 11) (by decide +kernel), List.mem_of_getElem? (i := 259) (by decide +kernel), List.mem_of_getElem? (i := 260) (by decide +kernel)⟩
def lw_privs_1 : List (MethodName × Nat) := [(⟨"SnoopBus", "startOver", "(I)V"⟩, 10), (⟨"SnoopBus", "emptyLine", "(I)Z"⟩, 10), (⟨"SnoopBus", "transact", "(III)V"⟩, 10), (⟨"SnoopBus", "copyToMemory", "(I)V"⟩, 10), (⟨"SnoopBus", "holds", "(II)Z"⟩, 10), (⟨"java/lang/Throwable", "fillInStackTrace", "(I)Ljava/lang/Throwable;"⟩, 6), (⟨"SnoopBus", "bringIn", "(III)V"⟩, 10), (⟨"SnoopBus", "load", "(III)V"⟩, 10), (⟨"SnoopBus", "fetchWords", "(II)V"⟩, 10), (⟨"SnoopBus", "dirtyLine", "(I)I"⟩, 10), (⟨"SnoopBus", "dropOthers", "(II)V"⟩, 10), (⟨"SnoopBus", "shareWithOthers", "(II)I"⟩, 10), (⟨"SnoopBus", "yieldToReader", "(I)V"⟩, 10), (⟨"SnoopBus", "updates", "()Z"⟩, 10), (⟨"SnoopBus", "tellOthers", "(III)V"⟩, 10), (⟨"SnoopBus", "updateOthers", "(III)Z"⟩, 10)]
theorem lw_r1 : ∀ q ∈ lw_privs_1, lw_okq q := List.forall_mem_cons.mpr ⟨lw_p0, List.forall_mem_cons.mpr ⟨lw_p1, List.forall_mem_cons.mpr ⟨lw_p2, List.forall_mem_cons.mpr ⟨lw_p3, List.forall_mem_cons.mpr ⟨lw_p4, List.forall_mem_cons.mpr ⟨lw_p5, List.forall_mem_cons.mpr ⟨lw_p6, List.forall_mem_cons.mpr ⟨lw_p7, List.forall_mem_cons.mpr ⟨lw_p8, List.forall_mem_cons.mpr ⟨lw_p9, List.forall_mem_cons.mpr ⟨lw_p10, List.forall_mem_cons.mpr ⟨lw_p11, List.forall_mem_cons.mpr ⟨lw_p12, List.forall_mem_cons.mpr ⟨lw_p13, List.forall_mem_cons.mpr ⟨lw_p14, List.forall_mem_cons.mpr ⟨lw_p15, fun _ h => absurd h List.not_mem_nil⟩⟩⟩⟩⟩⟩⟩⟩⟩⟩⟩⟩⟩⟩⟩⟩
theorem lw_p16 : lw_okq (⟨"SnoopBus", "claim", "(II)V"⟩, 10) := ⟨⟨by decide +kernel, by decide +kernel⟩, List.mem_of_getElem? (i := 11) (by decide +kernel), List.mem_of_getElem? (i := 263) (by decide +kernel), List.mem_of_getElem? (i := 264) (by decide +kernel)⟩
theorem lw_p17 : lw_okq (⟨"SnoopBusModel", "hit", "(II)Z"⟩, 10) := ⟨⟨by decide +kernel, by decide +kernel⟩, List.mem_of_getElem? (i := 292) (by decide +kernel), List.mem_of_getElem? (i := 344) (by decide +kernel), List.mem_of_getElem? (i := 345) (by decide +kernel)⟩
theorem lw_p18 : lw_okq (⟨"SnoopBusModel", "stateOf", "(II)I"⟩, 10) := ⟨⟨by decide +kernel, by decide +kernel⟩, List.mem_of_getElem? (i := 292) (by decide +kernel), List.mem_of_getElem? (i := 348) (by decide +kernel), List.mem_of_getElem? (i := 349) (by decide +kernel)⟩
theorem lw_p19 : lw_okq (⟨"SnoopBusModel", "load", "(III)V"⟩, 10) := ⟨⟨by decide +kernel, by decide +kernel⟩, List.mem_of_getElem? (i := 292) (by decide +kernel), List.mem_of_getElem? (i := 352) (by decide +kernel), List.mem_of_getElem? (i := 353) (by decide +kernel)⟩
theorem lw_p20 : lw_okq (⟨"SnoopBusModel", "empty", "(II)Z"⟩, 10) := ⟨⟨by decide +kernel, by decide +kernel⟩, List.mem_of_getElem? (i := 292) (by decide +kernel), List.mem_of_getElem? (i := 356) (by decide +kernel), List.mem_of_getElem? (i := 357) (by decide +kernel)⟩
theorem lw_p21 : lw_okq (⟨"SnoopBusModel", "transact", "(III)V"⟩, 10) := ⟨⟨by decide +kernel, by decide +kernel⟩, List.mem_of_getElem? (i := 292) (by decide +kernel), List.mem_of_getElem? (i := 360) (by decide +kernel), List.mem_of_getElem? (i := 361) (by decide +kernel)⟩
theorem lw_p22 : lw_okq (⟨"SnoopBusModel", "toMemory", "(II)V"⟩, 10) := ⟨⟨by decide +kernel, by decide +kernel⟩, List.mem_of_getElem? (i := 292) (by decide +kernel), List.mem_of_getElem? (i := 364) (by decide +kernel), List.mem_of_getElem? (i := 365) (by decide +kernel)⟩
theorem lw_p23 : lw_okq (⟨"SnoopBusModel", "setState", "(III)V"⟩, 10) := ⟨⟨by decide +kernel, by decide +kernel⟩, List.mem_of_getElem? (i := 292) (by decide +kernel), List.mem_of_getElem? (i := 368) (by decide +kernel), List.mem_of_getElem? (i := 369) (by decide +kernel)⟩
theorem lw_p24 : lw_okq (⟨"SnoopBusModel", "dirtyHolder", "(I)I"⟩, 10) := ⟨⟨by decide +kernel, by decide +kernel⟩, List.mem_of_getElem? (i := 292) (by decide +kernel), List.mem_of_getElem? (i := 372) (by decide +kernel), List.mem_of_getElem? (i := 373) (by decide +kernel)⟩
theorem lw_p25 : lw_okq (⟨"SnoopBusModel", "emptyOthers", "(II)V"⟩, 10) := ⟨⟨by decide +kernel, by decide +kernel⟩, List.mem_of_getElem? (i := 292) (by decide +kernel), List.mem_of_getElem? (i := 376) (by decide +kernel), List.mem_of_getElem? (i := 377) (by decide +kernel)⟩
theorem lw_p26 : lw_okq (⟨"SnoopBusModel", "others", "(II)I"⟩, 10) := ⟨⟨by decide +kernel, by decide +kernel⟩, List.mem_of_getElem? (i := 292) (by decide +kernel), List.mem_of_getElem? (i := 380) (by decide +kernel), List.mem_of_getElem? (i := 381) (by decide +kernel)⟩
theorem lw_p27 : lw_okq (⟨"SnoopBusModel", "invalidates", "()Z"⟩, 10) := ⟨⟨by decide +kernel, by decide +kernel⟩, List.mem_of_getElem? (i := 292) (by decide +kernel), List.mem_of_getElem? (i := 388) (by decide +kernel), List.mem_of_getElem? (i := 389) (by decide +kernel)⟩
def lw_privs_2 : List (MethodName × Nat) := [(⟨"SnoopBus", "claim", "(II)V"⟩, 10), (⟨"SnoopBusModel", "hit", "(II)Z"⟩, 10), (⟨"SnoopBusModel", "stateOf", "(II)I"⟩, 10), (⟨"SnoopBusModel", "load", "(III)V"⟩, 10), (⟨"SnoopBusModel", "empty", "(II)Z"⟩, 10), (⟨"SnoopBusModel", "transact", "(III)V"⟩, 10), (⟨"SnoopBusModel", "toMemory", "(II)V"⟩, 10), (⟨"SnoopBusModel", "setState", "(III)V"⟩, 10), (⟨"SnoopBusModel", "dirtyHolder", "(I)I"⟩, 10), (⟨"SnoopBusModel", "emptyOthers", "(II)V"⟩, 10), (⟨"SnoopBusModel", "others", "(II)I"⟩, 10), (⟨"SnoopBusModel", "invalidates", "()Z"⟩, 10)]
theorem lw_r2 : ∀ q ∈ lw_privs_2, lw_okq q := List.forall_mem_cons.mpr ⟨lw_p16, List.forall_mem_cons.mpr ⟨lw_p17, List.forall_mem_cons.mpr ⟨lw_p18, List.forall_mem_cons.mpr ⟨lw_p19, List.forall_mem_cons.mpr ⟨lw_p20, List.forall_mem_cons.mpr ⟨lw_p21, List.forall_mem_cons.mpr ⟨lw_p22, List.forall_mem_cons.mpr ⟨lw_p23, List.forall_mem_cons.mpr ⟨lw_p24, List.forall_mem_cons.mpr ⟨lw_p25, List.forall_mem_cons.mpr ⟨lw_p26, List.forall_mem_cons.mpr ⟨lw_p27, fun _ h => absurd h List.not_mem_nil⟩⟩⟩⟩⟩⟩⟩⟩⟩⟩⟩⟩
def lw_privs : List (MethodName × Nat) := lw_privs_1 ++ (lw_privs_2)
def lw_tbl : List Cond := k2_sels lw_privs ++ tables_1
theorem lw_privs_ok : ∀ q ∈ lw_privs, lw_okq q := by
  show ∀ q ∈ lw_privs_1 ++ (lw_privs_2), lw_okq q
  exact List.forall_mem_append.mpr ⟨lw_r1, lw_r2⟩
end
section
def RX0 : String := "SnoopBus"
def TX0 : u_T := fun k => match k with
  | 0 => ("SnoopBus", "lineStates", "[I", true)
  | 1 => ("SnoopBus", "lineBlocks", "[I", true)
  | 2 => ("SnoopBus", "lineWords", "[I", true)
  | 3 => ("SnoopBus", "memoryWords", "[I", true)
  | 4 => ("SnoopBus", "kindCounts", "[I", true)
  | 5 => ("SnoopBus", "recent", "[I", true)
  | 6 => ("SnoopBus", "chosen", "I", false)
  | 7 => ("SnoopBus", "transactions", "I", false)
  | 8 => ("SnoopBus", "hitCount", "I", false)
  | _ => ("SnoopBus", "missCount", "I", false)
def tyX0 : Nat → FieldType := fun k => match k with
  | 0 => .array .int
  | 1 => .array .int
  | 2 => .array .int
  | 3 => .array .int
  | 4 => .array .int
  | 5 => .array .int
  | 6 => .int
  | 7 => .int
  | 8 => .int
  | _ => .int
abbrev wsX00 : List Cond := u_ws RX0 TX0 10
theorem nmX0 : ∀ a, a < 10 → ∀ b, b < 10 → a ≠ b → (TX0 a).2.1 ≠ (TX0 b).2.1 := by decide +kernel
theorem tyX0_ok : ∀ k, k < 10 → parseFieldDescriptor (TX0 k).2.2.1 = some (tyX0 k) := by decide +kernel
def RX1 : String := "SnoopBusModel"
def TX1 : u_T := fun k => match k with
  | 0 => ("SnoopBusModel", "states", "[I", true)
  | 1 => ("SnoopBusModel", "words", "[I", true)
  | 2 => ("SnoopBusModel", "memory", "[I", true)
  | 3 => ("SnoopBusModel", "counts", "[I", true)
  | 4 => ("SnoopBusModel", "last", "[I", true)
  | 5 => ("SnoopBusModel", "protocol", "I", false)
  | 6 => ("SnoopBusModel", "all", "I", false)
  | 7 => ("SnoopBusModel", "hits", "I", false)
  | 8 => ("SnoopBusModel", "misses", "I", false)
  | _ => ("SnoopBusModel", "thrown", "I", false)
def tyX1 : Nat → FieldType := fun k => match k with
  | 0 => .array .int
  | 1 => .array .int
  | 2 => .array .int
  | 3 => .array .int
  | 4 => .array .int
  | 5 => .int
  | 6 => .int
  | 7 => .int
  | 8 => .int
  | _ => .int
abbrev wsX10 : List Cond := u_ws RX1 TX1 10
theorem nmX1 : ∀ a, a < 10 → ∀ b, b < 10 → a ≠ b → (TX1 a).2.1 ≠ (TX1 b).2.1 := by decide +kernel
theorem tyX1_ok : ∀ k, k < 10 → parseFieldDescriptor (TX1 k).2.2.1 = some (tyX1 k) := by decide +kernel
def RL : String := "SnoopBusLaw"
def RJ7 : String := "java/util/Arrays"
abbrev cX0_init : ByteArray := prog_1_method_1_code
def yX0_init : MethodName := ⟨RX0, "<init>", "()V"⟩
abbrev cX0_startOver : ByteArray := prog_1_method_15_code
def yX0_startOver : MethodName := ⟨RX0, "startOver", "(I)V"⟩
abbrev cJ7_fill : ByteArray := prog_11_method_103_code
def yJ7_fill : MethodName := ⟨RJ7, "fill", "([II)V"⟩
abbrev cX0_choose : ByteArray := prog_1_method_2_code
def yX0_choose : MethodName := ⟨RX0, "choose", "(I)Z"⟩
abbrev cX0_protocol : ByteArray := prog_1_method_3_code
def yX0_protocol : MethodName := ⟨RX0, "protocol", "()I"⟩
abbrev cX0_flush : ByteArray := prog_1_method_7_code
def yX0_flush : MethodName := ⟨RX0, "flush", "()I"⟩
abbrev cX0_emptyLine : ByteArray := prog_1_method_27_code
def yX0_emptyLine : MethodName := ⟨RX0, "emptyLine", "(I)Z"⟩
abbrev cX0_isDirty : ByteArray := prog_1_method_19_code
def yX0_isDirty : MethodName := ⟨RX0, "isDirty", "(I)Z"⟩
abbrev cX0_transact : ByteArray := prog_1_method_25_code
def yX0_transact : MethodName := ⟨RX0, "transact", "(III)V"⟩
abbrev cX0_copyToMemory : ByteArray := prog_1_method_26_code
def yX0_copyToMemory : MethodName := ⟨RX0, "copyToMemory", "(I)V"⟩
abbrev cX0_state : ByteArray := prog_1_method_8_code
def yX0_state : MethodName := ⟨RX0, "state", "(II)I"⟩
abbrev cX0_isProcessor : ByteArray := prog_1_method_16_code
def yX0_isProcessor : MethodName := ⟨RX0, "isProcessor", "(I)Z"⟩
abbrev cX0_isBlock : ByteArray := prog_1_method_18_code
def yX0_isBlock : MethodName := ⟨RX0, "isBlock", "(I)Z"⟩
abbrev cX0_holds : ByteArray := prog_1_method_24_code
def yX0_holds : MethodName := ⟨RX0, "holds", "(II)Z"⟩
abbrev cX0_lineFor : ByteArray := prog_1_method_21_code
def yX0_lineFor : MethodName := ⟨RX0, "lineFor", "(II)I"⟩
abbrev cX0_cached : ByteArray := prog_1_method_9_code
def yX0_cached : MethodName := ⟨RX0, "cached", "(II)I"⟩
abbrev cX0_isAddress : ByteArray := prog_1_method_17_code
def yX0_isAddress : MethodName := ⟨RX0, "isAddress", "(I)Z"⟩
abbrev cX0_blockOf : ByteArray := prog_1_method_20_code
def yX0_blockOf : MethodName := ⟨RX0, "blockOf", "(I)I"⟩
abbrev cX0_wordIndex : ByteArray := prog_1_method_22_code
def yX0_wordIndex : MethodName := ⟨RX0, "wordIndex", "(II)I"⟩
abbrev cX0_memory : ByteArray := prog_1_method_10_code
def yX0_memory : MethodName := ⟨RX0, "memory", "(I)I"⟩
abbrev cX0_count : ByteArray := prog_1_method_11_code
def yX0_count : MethodName := ⟨RX0, "count", "(I)I"⟩
abbrev cX0_hits : ByteArray := prog_1_method_12_code
def yX0_hits : MethodName := ⟨RX0, "hits", "()I"⟩
abbrev cX0_misses : ByteArray := prog_1_method_13_code
def yX0_misses : MethodName := ⟨RX0, "misses", "()I"⟩
abbrev cX0_latest : ByteArray := prog_1_method_14_code
def yX0_latest : MethodName := ⟨RX0, "latest", "(I)I"⟩
abbrev cL_read : ByteArray := method_3_code
def yL_read : MethodName := ⟨RL, "read", "(LSnoopBus;II[J)I"⟩
abbrev cX0_read : ByteArray := prog_1_method_4_code
def yX0_read : MethodName := ⟨RX0, "read", "(II)I"⟩
abbrev cX0_bringIn : ByteArray := prog_1_method_28_code
def yX0_bringIn : MethodName := ⟨RX0, "bringIn", "(III)V"⟩
abbrev cX0_load : ByteArray := prog_1_method_29_code
def yX0_load : MethodName := ⟨RX0, "load", "(III)V"⟩
abbrev cX0_fetchWords : ByteArray := prog_1_method_30_code
def yX0_fetchWords : MethodName := ⟨RX0, "fetchWords", "(II)V"⟩
abbrev cX0_dirtyLine : ByteArray := prog_1_method_31_code
def yX0_dirtyLine : MethodName := ⟨RX0, "dirtyLine", "(I)I"⟩
abbrev cX0_dropOthers : ByteArray := prog_1_method_32_code
def yX0_dropOthers : MethodName := ⟨RX0, "dropOthers", "(II)V"⟩
abbrev cX0_shareWithOthers : ByteArray := prog_1_method_33_code
def yX0_shareWithOthers : MethodName := ⟨RX0, "shareWithOthers", "(II)I"⟩
abbrev cX0_yieldToReader : ByteArray := prog_1_method_34_code
def yX0_yieldToReader : MethodName := ⟨RX0, "yieldToReader", "(I)V"⟩
abbrev cL_write : ByteArray := method_4_code
def yL_write : MethodName := ⟨RL, "write", "(LSnoopBus;III[J)I"⟩
abbrev cX0_write : ByteArray := prog_1_method_5_code
def yX0_write : MethodName := ⟨RX0, "write", "(III)I"⟩
abbrev cX0_updates : ByteArray := prog_1_method_23_code
def yX0_updates : MethodName := ⟨RX0, "updates", "()Z"⟩
abbrev cX0_tellOthers : ByteArray := prog_1_method_36_code
def yX0_tellOthers : MethodName := ⟨RX0, "tellOthers", "(III)V"⟩
abbrev cX0_isPerhapsElsewhere : ByteArray := prog_1_method_37_code
def yX0_isPerhapsElsewhere : MethodName := ⟨RX0, "isPerhapsElsewhere", "(I)Z"⟩
abbrev cX0_updateOthers : ByteArray := prog_1_method_38_code
def yX0_updateOthers : MethodName := ⟨RX0, "updateOthers", "(III)Z"⟩
abbrev cX0_claim : ByteArray := prog_1_method_35_code
def yX0_claim : MethodName := ⟨RX0, "claim", "(II)V"⟩
abbrev cL_evict : ByteArray := method_5_code
def yL_evict : MethodName := ⟨RL, "evict", "(LSnoopBus;II[J)I"⟩
abbrev cX0_evict : ByteArray := prog_1_method_6_code
def yX0_evict : MethodName := ⟨RX0, "evict", "(II)Z"⟩
abbrev cX1_init : ByteArray := prog_3_method_1_code
def yX1_init : MethodName := ⟨RX1, "<init>", "()V"⟩
abbrev cX1_choose : ByteArray := prog_3_method_2_code
def yX1_choose : MethodName := ⟨RX1, "choose", "(I)Z"⟩
abbrev cX1_protocol : ByteArray := prog_3_method_3_code
def yX1_protocol : MethodName := ⟨RX1, "protocol", "()I"⟩
abbrev cX1_read : ByteArray := prog_3_method_16_code
def yX1_read : MethodName := ⟨RX1, "read", "(II)I"⟩
abbrev cX1_within : ByteArray := prog_3_method_5_code
def yX1_within : MethodName := ⟨RX1, "within", "(II)Z"⟩
abbrev cX1_hit : ByteArray := prog_3_method_15_code
def yX1_hit : MethodName := ⟨RX1, "hit", "(II)Z"⟩
abbrev cX1_stateOf : ByteArray := prog_3_method_6_code
def yX1_stateOf : MethodName := ⟨RX1, "stateOf", "(II)I"⟩
abbrev cX1_load : ByteArray := prog_3_method_14_code
def yX1_load : MethodName := ⟨RX1, "load", "(III)V"⟩
abbrev cX1_empty : ByteArray := prog_3_method_10_code
def yX1_empty : MethodName := ⟨RX1, "empty", "(II)Z"⟩
abbrev cX1_transact : ByteArray := prog_3_method_8_code
def yX1_transact : MethodName := ⟨RX1, "transact", "(III)V"⟩
abbrev cX1_toMemory : ByteArray := prog_3_method_9_code
def yX1_toMemory : MethodName := ⟨RX1, "toMemory", "(II)V"⟩
abbrev cX1_setState : ByteArray := prog_3_method_7_code
def yX1_setState : MethodName := ⟨RX1, "setState", "(III)V"⟩
abbrev cX1_dirtyHolder : ByteArray := prog_3_method_12_code
def yX1_dirtyHolder : MethodName := ⟨RX1, "dirtyHolder", "(I)I"⟩
abbrev cX1_emptyOthers : ByteArray := prog_3_method_13_code
def yX1_emptyOthers : MethodName := ⟨RX1, "emptyOthers", "(II)V"⟩
abbrev cX1_others : ByteArray := prog_3_method_11_code
def yX1_others : MethodName := ⟨RX1, "others", "(II)I"⟩
abbrev cX1_write : ByteArray := prog_3_method_17_code
def yX1_write : MethodName := ⟨RX1, "write", "(III)I"⟩
abbrev cX1_invalidates : ByteArray := prog_3_method_4_code
def yX1_invalidates : MethodName := ⟨RX1, "invalidates", "()Z"⟩
abbrev cX1_evict : ByteArray := prog_3_method_18_code
def yX1_evict : MethodName := ⟨RX1, "evict", "(II)Z"⟩
abbrev cX1_flush : ByteArray := prog_3_method_19_code
def yX1_flush : MethodName := ⟨RX1, "flush", "()I"⟩
abbrev cX1_state : ByteArray := prog_3_method_20_code
def yX1_state : MethodName := ⟨RX1, "state", "(II)I"⟩
abbrev cX1_cached : ByteArray := prog_3_method_21_code
def yX1_cached : MethodName := ⟨RX1, "cached", "(II)I"⟩
abbrev cX1_memory : ByteArray := prog_3_method_22_code
def yX1_memory : MethodName := ⟨RX1, "memory", "(I)I"⟩
abbrev cX1_count : ByteArray := prog_3_method_23_code
def yX1_count : MethodName := ⟨RX1, "count", "(I)I"⟩
abbrev cX1_hits : ByteArray := prog_3_method_24_code
def yX1_hits : MethodName := ⟨RX1, "hits", "()I"⟩
abbrev cX1_misses : ByteArray := prog_3_method_25_code
def yX1_misses : MethodName := ⟨RX1, "misses", "()I"⟩
abbrev cX1_latest : ByteArray := prog_3_method_26_code
def yX1_latest : MethodName := ⟨RX1, "latest", "(I)I"⟩
abbrev cX1_thrown : ByteArray := prog_3_method_27_code
def yX1_thrown : MethodName := ⟨RX1, "thrown", "()I"⟩
abbrev vwCl : List vw_C := [(RX0, TX0, 10), (RX1, TX1, 10)]
/-- the tables' words that a callee may be handed -/
def GT : List Cond := lw_tbl.filter goodWord
theorem gt_m {w : Cond} (h : w ∈ lw_tbl) (g : goodWord w = true) : w ∈ GT := List.mem_filter.mpr ⟨h, g⟩
theorem inX0 : ∀ w ∈ wsX00, w ∈ GT := by decide +kernel
theorem inX1 : ∀ w ∈ wsX10, w ∈ GT := by decide +kernel
end
section
theorem dX0_init_0 : decode cX0_init 0 = .ok (.aload_n 0, 1) := by decide +kernel
theorem dX0_init_1 : decode cX0_init 1 = .ok (.invokespecial 1, 3) := by decide +kernel
theorem dX0_init_4 : decode cX0_init 4 = .ok (.aload_n 0, 1) := by decide +kernel
theorem dX0_init_5 : decode cX0_init 5 = .ok (.bipush 8, 2) := by decide +kernel
theorem dX0_init_7 : decode cX0_init 7 = .ok (.newarray .int, 2) := by decide +kernel
theorem dX0_init_9 : decode cX0_init 9 = .ok (.putfield 9, 3) := by decide +kernel
theorem dX0_init_12 : decode cX0_init 12 = .ok (.aload_n 0, 1) := by decide +kernel
theorem dX0_init_13 : decode cX0_init 13 = .ok (.bipush 8, 2) := by decide +kernel
theorem dX0_init_15 : decode cX0_init 15 = .ok (.newarray .int, 2) := by decide +kernel
theorem dX0_init_17 : decode cX0_init 17 = .ok (.putfield 13, 3) := by decide +kernel
theorem dX0_init_20 : decode cX0_init 20 = .ok (.aload_n 0, 1) := by decide +kernel
theorem dX0_init_21 : decode cX0_init 21 = .ok (.bipush 16, 2) := by decide +kernel
theorem dX0_init_23 : decode cX0_init 23 = .ok (.newarray .int, 2) := by decide +kernel
theorem dX0_init_25 : decode cX0_init 25 = .ok (.putfield 16, 3) := by decide +kernel
theorem dX0_init_28 : decode cX0_init 28 = .ok (.aload_n 0, 1) := by decide +kernel
theorem dX0_init_29 : decode cX0_init 29 = .ok (.bipush 32, 2) := by decide +kernel
theorem dX0_init_31 : decode cX0_init 31 = .ok (.newarray .int, 2) := by decide +kernel
theorem dX0_init_33 : decode cX0_init 33 = .ok (.putfield 19, 3) := by decide +kernel
theorem dX0_init_36 : decode cX0_init 36 = .ok (.aload_n 0, 1) := by decide +kernel
theorem dX0_init_37 : decode cX0_init 37 = .ok (.iconst 5, 1) := by decide +kernel
theorem dX0_init_38 : decode cX0_init 38 = .ok (.newarray .int, 2) := by decide +kernel
theorem dX0_init_40 : decode cX0_init 40 = .ok (.putfield 22, 3) := by decide +kernel
theorem dX0_init_43 : decode cX0_init 43 = .ok (.aload_n 0, 1) := by decide +kernel
theorem dX0_init_44 : decode cX0_init 44 = .ok (.bipush 8, 2) := by decide +kernel
theorem dX0_init_46 : decode cX0_init 46 = .ok (.newarray .int, 2) := by decide +kernel
theorem dX0_init_48 : decode cX0_init 48 = .ok (.putfield 25, 3) := by decide +kernel
theorem dX0_init_51 : decode cX0_init 51 = .ok (.aload_n 0, 1) := by decide +kernel
theorem dX0_init_52 : decode cX0_init 52 = .ok (.iconst 0, 1) := by decide +kernel
theorem dX0_init_53 : decode cX0_init 53 = .ok (.invokevirtual 28, 3) := by decide +kernel
theorem dX0_init_56 : decode cX0_init 56 = .ok (.return_, 1) := by decide +kernel
theorem dX0_choose_0 : decode cX0_choose 0 = .ok (.iload_n 1, 1) := by decide +kernel
theorem dX0_choose_1 : decode cX0_choose 1 = .ok (.ifCond .lt 8, 3) := by decide +kernel
theorem dX0_choose_4 : decode cX0_choose 4 = .ok (.iload_n 1, 1) := by decide +kernel
theorem dX0_choose_5 : decode cX0_choose 5 = .ok (.iconst 4, 1) := by decide +kernel
theorem dX0_choose_6 : decode cX0_choose 6 = .ok (.if_icmp .lt 5, 3) := by decide +kernel
theorem dX0_choose_9 : decode cX0_choose 9 = .ok (.iconst 0, 1) := by decide +kernel
theorem dX0_choose_10 : decode cX0_choose 10 = .ok (.ireturn, 1) := by decide +kernel
theorem dX0_choose_11 : decode cX0_choose 11 = .ok (.aload_n 0, 1) := by decide +kernel
theorem dX0_choose_12 : decode cX0_choose 12 = .ok (.iload_n 1, 1) := by decide +kernel
theorem dX0_choose_13 : decode cX0_choose 13 = .ok (.invokevirtual 28, 3) := by decide +kernel
theorem dX0_choose_16 : decode cX0_choose 16 = .ok (.iconst 1, 1) := by decide +kernel
theorem dX0_choose_17 : decode cX0_choose 17 = .ok (.ireturn, 1) := by decide +kernel
theorem dX0_protocol_0 : decode cX0_protocol 0 = .ok (.aload_n 0, 1) := by decide +kernel
theorem dX0_protocol_1 : decode cX0_protocol 1 = .ok (.getfield 32, 3) := by decide +kernel
theorem dX0_protocol_4 : decode cX0_protocol 4 = .ok (.ireturn, 1) := by decide +kernel
theorem dX0_read_0 : decode cX0_read 0 = .ok (.iload_n 1, 1) := by decide +kernel
theorem dX0_read_1 : decode cX0_read 1 = .ok (.invokestatic 36, 3) := by decide +kernel
theorem dX0_read_4 : decode cX0_read 4 = .ok (.ifCond .eq 10, 3) := by decide +kernel
theorem dX0_read_7 : decode cX0_read 7 = .ok (.iload_n 2, 1) := by decide +kernel
theorem dX0_read_8 : decode cX0_read 8 = .ok (.invokestatic 40, 3) := by decide +kernel
theorem dX0_read_11 : decode cX0_read 11 = .ok (.ifCond .ne 13, 3) := by decide +kernel
theorem dX0_read_14 : decode cX0_read 14 = .ok (.new 43, 3) := by decide +kernel
theorem dX0_read_17 : decode cX0_read 17 = .ok (.dup, 1) := by decide +kernel
theorem dX0_read_18 : decode cX0_read 18 = .ok (.ldc 45, 2) := by decide +kernel
theorem dX0_read_20 : decode cX0_read 20 = .ok (.invokespecial 47, 3) := by decide +kernel
theorem dX0_read_23 : decode cX0_read 23 = .ok (.athrow, 1) := by decide +kernel
theorem dX0_read_24 : decode cX0_read 24 = .ok (.aload_n 0, 1) := by decide +kernel
theorem dX0_read_25 : decode cX0_read 25 = .ok (.iload_n 1, 1) := by decide +kernel
theorem dX0_read_26 : decode cX0_read 26 = .ok (.iload_n 2, 1) := by decide +kernel
theorem dX0_read_27 : decode cX0_read 27 = .ok (.invokestatic 50, 3) := by decide +kernel
theorem dX0_read_30 : decode cX0_read 30 = .ok (.iconst 0, 1) := by decide +kernel
theorem dX0_read_31 : decode cX0_read 31 = .ok (.invokevirtual 54, 3) := by decide +kernel
theorem dX0_read_34 : decode cX0_read 34 = .ok (.aload_n 0, 1) := by decide +kernel
theorem dX0_read_35 : decode cX0_read 35 = .ok (.getfield 16, 3) := by decide +kernel
theorem dX0_read_38 : decode cX0_read 38 = .ok (.iload_n 1, 1) := by decide +kernel
theorem dX0_read_39 : decode cX0_read 39 = .ok (.iload_n 2, 1) := by decide +kernel
theorem dX0_read_40 : decode cX0_read 40 = .ok (.invokestatic 58, 3) := by decide +kernel
theorem dX0_read_43 : decode cX0_read 43 = .ok (.iaload, 1) := by decide +kernel
theorem dX0_read_44 : decode cX0_read 44 = .ok (.ireturn, 1) := by decide +kernel
theorem dX0_write_0 : decode cX0_write 0 = .ok (.iload_n 1, 1) := by decide +kernel
theorem dX0_write_1 : decode cX0_write 1 = .ok (.invokestatic 36, 3) := by decide +kernel
theorem dX0_write_4 : decode cX0_write 4 = .ok (.ifCond .eq 10, 3) := by decide +kernel
theorem dX0_write_7 : decode cX0_write 7 = .ok (.iload_n 2, 1) := by decide +kernel
theorem dX0_write_8 : decode cX0_write 8 = .ok (.invokestatic 40, 3) := by decide +kernel
theorem dX0_write_11 : decode cX0_write 11 = .ok (.ifCond .ne 13, 3) := by decide +kernel
theorem dX0_write_14 : decode cX0_write 14 = .ok (.new 43, 3) := by decide +kernel
theorem dX0_write_17 : decode cX0_write 17 = .ok (.dup, 1) := by decide +kernel
theorem dX0_write_18 : decode cX0_write 18 = .ok (.ldc 45, 2) := by decide +kernel
theorem dX0_write_20 : decode cX0_write 20 = .ok (.invokespecial 47, 3) := by decide +kernel
theorem dX0_write_23 : decode cX0_write 23 = .ok (.athrow, 1) := by decide +kernel
theorem dX0_write_24 : decode cX0_write 24 = .ok (.aload_n 0, 1) := by decide +kernel
theorem dX0_write_25 : decode cX0_write 25 = .ok (.getfield 62, 3) := by decide +kernel
theorem dX0_write_28 : decode cX0_write 28 = .ok (.istore 4, 2) := by decide +kernel
theorem dX0_write_30 : decode cX0_write 30 = .ok (.aload_n 0, 1) := by decide +kernel
theorem dX0_write_31 : decode cX0_write 31 = .ok (.iload_n 1, 1) := by decide +kernel
theorem dX0_write_32 : decode cX0_write 32 = .ok (.iload_n 2, 1) := by decide +kernel
theorem dX0_write_33 : decode cX0_write 33 = .ok (.invokestatic 50, 3) := by decide +kernel
theorem dX0_write_36 : decode cX0_write 36 = .ok (.aload_n 0, 1) := by decide +kernel
theorem dX0_write_37 : decode cX0_write 37 = .ok (.invokevirtual 65, 3) := by decide +kernel
theorem dX0_write_40 : decode cX0_write 40 = .ok (.ifCond .eq 7, 3) := by decide +kernel
theorem dX0_write_43 : decode cX0_write 43 = .ok (.iconst 0, 1) := by decide +kernel
theorem dX0_write_44 : decode cX0_write 44 = .ok (.goto 4, 3) := by decide +kernel
theorem dX0_write_47 : decode cX0_write 47 = .ok (.iconst 1, 1) := by decide +kernel
theorem dX0_write_48 : decode cX0_write 48 = .ok (.invokevirtual 54, 3) := by decide +kernel
theorem dX0_write_51 : decode cX0_write 51 = .ok (.aload_n 0, 1) := by decide +kernel
theorem dX0_write_52 : decode cX0_write 52 = .ok (.invokevirtual 65, 3) := by decide +kernel
theorem dX0_write_55 : decode cX0_write 55 = .ok (.ifCond .eq 13, 3) := by decide +kernel
theorem dX0_write_58 : decode cX0_write 58 = .ok (.aload_n 0, 1) := by decide +kernel
theorem dX0_write_59 : decode cX0_write 59 = .ok (.iload_n 1, 1) := by decide +kernel
theorem dX0_write_60 : decode cX0_write 60 = .ok (.iload_n 2, 1) := by decide +kernel
theorem dX0_write_61 : decode cX0_write 61 = .ok (.iload_n 3, 1) := by decide +kernel
theorem dX0_write_62 : decode cX0_write 62 = .ok (.invokevirtual 69, 3) := by decide +kernel
theorem dX0_write_65 : decode cX0_write 65 = .ok (.goto 12, 3) := by decide +kernel
theorem dX0_write_68 : decode cX0_write 68 = .ok (.aload_n 0, 1) := by decide +kernel
theorem dX0_write_69 : decode cX0_write 69 = .ok (.iload_n 1, 1) := by decide +kernel
theorem dX0_write_70 : decode cX0_write 70 = .ok (.iload_n 2, 1) := by decide +kernel
theorem dX0_write_71 : decode cX0_write 71 = .ok (.invokestatic 50, 3) := by decide +kernel
theorem dX0_write_74 : decode cX0_write 74 = .ok (.invokevirtual 72, 3) := by decide +kernel
theorem dX0_write_77 : decode cX0_write 77 = .ok (.aload_n 0, 1) := by decide +kernel
theorem dX0_write_78 : decode cX0_write 78 = .ok (.getfield 16, 3) := by decide +kernel
theorem dX0_write_81 : decode cX0_write 81 = .ok (.iload_n 1, 1) := by decide +kernel
theorem dX0_write_82 : decode cX0_write 82 = .ok (.iload_n 2, 1) := by decide +kernel
theorem dX0_write_83 : decode cX0_write 83 = .ok (.invokestatic 58, 3) := by decide +kernel
theorem dX0_write_86 : decode cX0_write 86 = .ok (.iload_n 3, 1) := by decide +kernel
theorem dX0_write_87 : decode cX0_write 87 = .ok (.iastore, 1) := by decide +kernel
theorem dX0_write_88 : decode cX0_write 88 = .ok (.aload_n 0, 1) := by decide +kernel
theorem dX0_write_89 : decode cX0_write 89 = .ok (.getfield 62, 3) := by decide +kernel
theorem dX0_write_92 : decode cX0_write 92 = .ok (.iload 4, 2) := by decide +kernel
theorem dX0_write_94 : decode cX0_write 94 = .ok (.isub, 1) := by decide +kernel
theorem dX0_write_95 : decode cX0_write 95 = .ok (.ireturn, 1) := by decide +kernel
theorem dX0_evict_0 : decode cX0_evict 0 = .ok (.iload_n 1, 1) := by decide +kernel
theorem dX0_evict_1 : decode cX0_evict 1 = .ok (.invokestatic 36, 3) := by decide +kernel
theorem dX0_evict_4 : decode cX0_evict 4 = .ok (.ifCond .eq 10, 3) := by decide +kernel
theorem dX0_evict_7 : decode cX0_evict 7 = .ok (.iload_n 2, 1) := by decide +kernel
theorem dX0_evict_8 : decode cX0_evict 8 = .ok (.invokestatic 76, 3) := by decide +kernel
theorem dX0_evict_11 : decode cX0_evict 11 = .ok (.ifCond .ne 13, 3) := by decide +kernel
theorem dX0_evict_14 : decode cX0_evict 14 = .ok (.new 43, 3) := by decide +kernel
theorem dX0_evict_17 : decode cX0_evict 17 = .ok (.dup, 1) := by decide +kernel
theorem dX0_evict_18 : decode cX0_evict 18 = .ok (.ldc 79, 2) := by decide +kernel
theorem dX0_evict_20 : decode cX0_evict 20 = .ok (.invokespecial 47, 3) := by decide +kernel
theorem dX0_evict_23 : decode cX0_evict 23 = .ok (.athrow, 1) := by decide +kernel
theorem dX0_evict_24 : decode cX0_evict 24 = .ok (.aload_n 0, 1) := by decide +kernel
theorem dX0_evict_25 : decode cX0_evict 25 = .ok (.iload_n 1, 1) := by decide +kernel
theorem dX0_evict_26 : decode cX0_evict 26 = .ok (.iload_n 2, 1) := by decide +kernel
theorem dX0_evict_27 : decode cX0_evict 27 = .ok (.invokevirtual 81, 3) := by decide +kernel
theorem dX0_evict_30 : decode cX0_evict 30 = .ok (.ifCond .ne 13, 3) := by decide +kernel
theorem dX0_evict_33 : decode cX0_evict 33 = .ok (.new 85, 3) := by decide +kernel
theorem dX0_evict_36 : decode cX0_evict 36 = .ok (.dup, 1) := by decide +kernel
theorem dX0_evict_37 : decode cX0_evict 37 = .ok (.ldc 87, 2) := by decide +kernel
theorem dX0_evict_39 : decode cX0_evict 39 = .ok (.invokespecial 89, 3) := by decide +kernel
theorem dX0_evict_42 : decode cX0_evict 42 = .ok (.athrow, 1) := by decide +kernel
theorem dX0_evict_43 : decode cX0_evict 43 = .ok (.aload_n 0, 1) := by decide +kernel
theorem dX0_evict_44 : decode cX0_evict 44 = .ok (.iload_n 1, 1) := by decide +kernel
theorem dX0_evict_45 : decode cX0_evict 45 = .ok (.iload_n 2, 1) := by decide +kernel
theorem dX0_evict_46 : decode cX0_evict 46 = .ok (.invokestatic 90, 3) := by decide +kernel
theorem dX0_evict_49 : decode cX0_evict 49 = .ok (.invokevirtual 93, 3) := by decide +kernel
theorem dX0_evict_52 : decode cX0_evict 52 = .ok (.ireturn, 1) := by decide +kernel
theorem dX0_flush_0 : decode cX0_flush 0 = .ok (.iconst 0, 1) := by decide +kernel
theorem dX0_flush_1 : decode cX0_flush 1 = .ok (.istore_n 1, 1) := by decide +kernel
theorem dX0_flush_2 : decode cX0_flush 2 = .ok (.iconst 0, 1) := by decide +kernel
theorem dX0_flush_3 : decode cX0_flush 3 = .ok (.istore_n 2, 1) := by decide +kernel
theorem dX0_flush_4 : decode cX0_flush 4 = .ok (.iload_n 2, 1) := by decide +kernel
theorem dX0_flush_5 : decode cX0_flush 5 = .ok (.bipush 8, 2) := by decide +kernel
theorem dX0_flush_7 : decode cX0_flush 7 = .ok (.if_icmp .ge 20, 3) := by decide +kernel
theorem dX0_flush_10 : decode cX0_flush 10 = .ok (.aload_n 0, 1) := by decide +kernel
theorem dX0_flush_11 : decode cX0_flush 11 = .ok (.iload_n 2, 1) := by decide +kernel
theorem dX0_flush_12 : decode cX0_flush 12 = .ok (.invokevirtual 93, 3) := by decide +kernel
theorem dX0_flush_15 : decode cX0_flush 15 = .ok (.ifCond .eq 6, 3) := by decide +kernel
theorem dX0_flush_18 : decode cX0_flush 18 = .ok (.iinc 1 1, 3) := by decide +kernel
theorem dX0_flush_21 : decode cX0_flush 21 = .ok (.iinc 2 1, 3) := by decide +kernel
theorem dX0_flush_24 : decode cX0_flush 24 = .ok (.goto (-20), 3) := by decide +kernel
theorem dX0_flush_27 : decode cX0_flush 27 = .ok (.iload_n 1, 1) := by decide +kernel
theorem dX0_flush_28 : decode cX0_flush 28 = .ok (.ireturn, 1) := by decide +kernel
theorem dX0_state_0 : decode cX0_state 0 = .ok (.iload_n 1, 1) := by decide +kernel
theorem dX0_state_1 : decode cX0_state 1 = .ok (.invokestatic 36, 3) := by decide +kernel
theorem dX0_state_4 : decode cX0_state 4 = .ok (.ifCond .eq 10, 3) := by decide +kernel
theorem dX0_state_7 : decode cX0_state 7 = .ok (.iload_n 2, 1) := by decide +kernel
theorem dX0_state_8 : decode cX0_state 8 = .ok (.invokestatic 76, 3) := by decide +kernel
theorem dX0_state_11 : decode cX0_state 11 = .ok (.ifCond .ne 5, 3) := by decide +kernel
theorem dX0_state_14 : decode cX0_state 14 = .ok (.iconst (-1), 1) := by decide +kernel
theorem dX0_state_15 : decode cX0_state 15 = .ok (.ireturn, 1) := by decide +kernel
theorem dX0_state_16 : decode cX0_state 16 = .ok (.aload_n 0, 1) := by decide +kernel
theorem dX0_state_17 : decode cX0_state 17 = .ok (.iload_n 1, 1) := by decide +kernel
theorem dX0_state_18 : decode cX0_state 18 = .ok (.iload_n 2, 1) := by decide +kernel
theorem dX0_state_19 : decode cX0_state 19 = .ok (.invokevirtual 81, 3) := by decide +kernel
theorem dX0_state_22 : decode cX0_state 22 = .ok (.ifCond .eq 16, 3) := by decide +kernel
theorem dX0_state_25 : decode cX0_state 25 = .ok (.aload_n 0, 1) := by decide +kernel
theorem dX0_state_26 : decode cX0_state 26 = .ok (.getfield 9, 3) := by decide +kernel
theorem dX0_state_29 : decode cX0_state 29 = .ok (.iload_n 1, 1) := by decide +kernel
theorem dX0_state_30 : decode cX0_state 30 = .ok (.iload_n 2, 1) := by decide +kernel
theorem dX0_state_31 : decode cX0_state 31 = .ok (.invokestatic 90, 3) := by decide +kernel
theorem dX0_state_34 : decode cX0_state 34 = .ok (.iaload, 1) := by decide +kernel
theorem dX0_state_35 : decode cX0_state 35 = .ok (.goto 4, 3) := by decide +kernel
theorem dX0_state_38 : decode cX0_state 38 = .ok (.iconst 0, 1) := by decide +kernel
theorem dX0_state_39 : decode cX0_state 39 = .ok (.ireturn, 1) := by decide +kernel
theorem dX0_cached_0 : decode cX0_cached 0 = .ok (.iload_n 1, 1) := by decide +kernel
theorem dX0_cached_1 : decode cX0_cached 1 = .ok (.invokestatic 36, 3) := by decide +kernel
theorem dX0_cached_4 : decode cX0_cached 4 = .ok (.ifCond .eq 22, 3) := by decide +kernel
theorem dX0_cached_7 : decode cX0_cached 7 = .ok (.iload_n 2, 1) := by decide +kernel
theorem dX0_cached_8 : decode cX0_cached 8 = .ok (.invokestatic 40, 3) := by decide +kernel
theorem dX0_cached_11 : decode cX0_cached 11 = .ok (.ifCond .eq 15, 3) := by decide +kernel
theorem dX0_cached_14 : decode cX0_cached 14 = .ok (.aload_n 0, 1) := by decide +kernel
theorem dX0_cached_15 : decode cX0_cached 15 = .ok (.iload_n 1, 1) := by decide +kernel
theorem dX0_cached_16 : decode cX0_cached 16 = .ok (.iload_n 2, 1) := by decide +kernel
theorem dX0_cached_17 : decode cX0_cached 17 = .ok (.invokestatic 50, 3) := by decide +kernel
theorem dX0_cached_20 : decode cX0_cached 20 = .ok (.invokevirtual 81, 3) := by decide +kernel
theorem dX0_cached_23 : decode cX0_cached 23 = .ok (.ifCond .ne 5, 3) := by decide +kernel
theorem dX0_cached_26 : decode cX0_cached 26 = .ok (.iconst 0, 1) := by decide +kernel
theorem dX0_cached_27 : decode cX0_cached 27 = .ok (.ireturn, 1) := by decide +kernel
theorem dX0_cached_28 : decode cX0_cached 28 = .ok (.aload_n 0, 1) := by decide +kernel
theorem dX0_cached_29 : decode cX0_cached 29 = .ok (.getfield 16, 3) := by decide +kernel
theorem dX0_cached_32 : decode cX0_cached 32 = .ok (.iload_n 1, 1) := by decide +kernel
theorem dX0_cached_33 : decode cX0_cached 33 = .ok (.iload_n 2, 1) := by decide +kernel
theorem dX0_cached_34 : decode cX0_cached 34 = .ok (.invokestatic 58, 3) := by decide +kernel
theorem dX0_cached_37 : decode cX0_cached 37 = .ok (.iaload, 1) := by decide +kernel
theorem dX0_cached_38 : decode cX0_cached 38 = .ok (.ireturn, 1) := by decide +kernel
theorem dX0_memory_0 : decode cX0_memory 0 = .ok (.iload_n 1, 1) := by decide +kernel
theorem dX0_memory_1 : decode cX0_memory 1 = .ok (.invokestatic 40, 3) := by decide +kernel
theorem dX0_memory_4 : decode cX0_memory 4 = .ok (.ifCond .eq 12, 3) := by decide +kernel
theorem dX0_memory_7 : decode cX0_memory 7 = .ok (.aload_n 0, 1) := by decide +kernel
theorem dX0_memory_8 : decode cX0_memory 8 = .ok (.getfield 19, 3) := by decide +kernel
theorem dX0_memory_11 : decode cX0_memory 11 = .ok (.iload_n 1, 1) := by decide +kernel
theorem dX0_memory_12 : decode cX0_memory 12 = .ok (.iaload, 1) := by decide +kernel
theorem dX0_memory_13 : decode cX0_memory 13 = .ok (.goto 4, 3) := by decide +kernel
theorem dX0_memory_16 : decode cX0_memory 16 = .ok (.iconst 0, 1) := by decide +kernel
theorem dX0_memory_17 : decode cX0_memory 17 = .ok (.ireturn, 1) := by decide +kernel
theorem dX0_count_0 : decode cX0_count 0 = .ok (.iload_n 1, 1) := by decide +kernel
theorem dX0_count_1 : decode cX0_count 1 = .ok (.ifCond .lt 17, 3) := by decide +kernel
theorem dX0_count_4 : decode cX0_count 4 = .ok (.iload_n 1, 1) := by decide +kernel
theorem dX0_count_5 : decode cX0_count 5 = .ok (.iconst 5, 1) := by decide +kernel
theorem dX0_count_6 : decode cX0_count 6 = .ok (.if_icmp .ge 12, 3) := by decide +kernel
theorem dX0_count_9 : decode cX0_count 9 = .ok (.aload_n 0, 1) := by decide +kernel
theorem dX0_count_10 : decode cX0_count 10 = .ok (.getfield 22, 3) := by decide +kernel
theorem dX0_count_13 : decode cX0_count 13 = .ok (.iload_n 1, 1) := by decide +kernel
theorem dX0_count_14 : decode cX0_count 14 = .ok (.iaload, 1) := by decide +kernel
theorem dX0_count_15 : decode cX0_count 15 = .ok (.goto 4, 3) := by decide +kernel
theorem dX0_count_18 : decode cX0_count 18 = .ok (.iconst (-1), 1) := by decide +kernel
theorem dX0_count_19 : decode cX0_count 19 = .ok (.ireturn, 1) := by decide +kernel
theorem dX0_hits_0 : decode cX0_hits 0 = .ok (.aload_n 0, 1) := by decide +kernel
theorem dX0_hits_1 : decode cX0_hits 1 = .ok (.getfield 96, 3) := by decide +kernel
theorem dX0_hits_4 : decode cX0_hits 4 = .ok (.ireturn, 1) := by decide +kernel
theorem dX0_misses_0 : decode cX0_misses 0 = .ok (.aload_n 0, 1) := by decide +kernel
theorem dX0_misses_1 : decode cX0_misses 1 = .ok (.getfield 99, 3) := by decide +kernel
theorem dX0_misses_4 : decode cX0_misses 4 = .ok (.ireturn, 1) := by decide +kernel
theorem dX0_latest_0 : decode cX0_latest 0 = .ok (.iload_n 1, 1) := by decide +kernel
theorem dX0_latest_1 : decode cX0_latest 1 = .ok (.ifCond .lt 18, 3) := by decide +kernel
theorem dX0_latest_4 : decode cX0_latest 4 = .ok (.iload_n 1, 1) := by decide +kernel
theorem dX0_latest_5 : decode cX0_latest 5 = .ok (.bipush 8, 2) := by decide +kernel
theorem dX0_latest_7 : decode cX0_latest 7 = .ok (.if_icmp .ge 12, 3) := by decide +kernel
theorem dX0_latest_10 : decode cX0_latest 10 = .ok (.aload_n 0, 1) := by decide +kernel
theorem dX0_latest_11 : decode cX0_latest 11 = .ok (.getfield 25, 3) := by decide +kernel
theorem dX0_latest_14 : decode cX0_latest 14 = .ok (.iload_n 1, 1) := by decide +kernel
theorem dX0_latest_15 : decode cX0_latest 15 = .ok (.iaload, 1) := by decide +kernel
theorem dX0_latest_16 : decode cX0_latest 16 = .ok (.goto 4, 3) := by decide +kernel
theorem dX0_latest_19 : decode cX0_latest 19 = .ok (.iconst (-1), 1) := by decide +kernel
theorem dX0_latest_20 : decode cX0_latest 20 = .ok (.ireturn, 1) := by decide +kernel
theorem dX0_startOver_0 : decode cX0_startOver 0 = .ok (.aload_n 0, 1) := by decide +kernel
theorem dX0_startOver_1 : decode cX0_startOver 1 = .ok (.getfield 9, 3) := by decide +kernel
theorem dX0_startOver_4 : decode cX0_startOver 4 = .ok (.iconst 0, 1) := by decide +kernel
theorem dX0_startOver_5 : decode cX0_startOver 5 = .ok (.invokestatic 102, 3) := by decide +kernel
theorem dX0_startOver_8 : decode cX0_startOver 8 = .ok (.aload_n 0, 1) := by decide +kernel
theorem dX0_startOver_9 : decode cX0_startOver 9 = .ok (.getfield 19, 3) := by decide +kernel
theorem dX0_startOver_12 : decode cX0_startOver 12 = .ok (.iconst 0, 1) := by decide +kernel
theorem dX0_startOver_13 : decode cX0_startOver 13 = .ok (.invokestatic 102, 3) := by decide +kernel
theorem dX0_startOver_16 : decode cX0_startOver 16 = .ok (.aload_n 0, 1) := by decide +kernel
theorem dX0_startOver_17 : decode cX0_startOver 17 = .ok (.getfield 22, 3) := by decide +kernel
theorem dX0_startOver_20 : decode cX0_startOver 20 = .ok (.iconst 0, 1) := by decide +kernel
theorem dX0_startOver_21 : decode cX0_startOver 21 = .ok (.invokestatic 102, 3) := by decide +kernel
theorem dX0_startOver_24 : decode cX0_startOver 24 = .ok (.aload_n 0, 1) := by decide +kernel
theorem dX0_startOver_25 : decode cX0_startOver 25 = .ok (.getfield 25, 3) := by decide +kernel
theorem dX0_startOver_28 : decode cX0_startOver 28 = .ok (.iconst (-1), 1) := by decide +kernel
theorem dX0_startOver_29 : decode cX0_startOver 29 = .ok (.invokestatic 102, 3) := by decide +kernel
theorem dX0_startOver_32 : decode cX0_startOver 32 = .ok (.aload_n 0, 1) := by decide +kernel
theorem dX0_startOver_33 : decode cX0_startOver 33 = .ok (.iload_n 1, 1) := by decide +kernel
theorem dX0_startOver_34 : decode cX0_startOver 34 = .ok (.putfield 32, 3) := by decide +kernel
theorem dX0_startOver_37 : decode cX0_startOver 37 = .ok (.aload_n 0, 1) := by decide +kernel
theorem dX0_startOver_38 : decode cX0_startOver 38 = .ok (.iconst 0, 1) := by decide +kernel
theorem dX0_startOver_39 : decode cX0_startOver 39 = .ok (.putfield 62, 3) := by decide +kernel
theorem dX0_startOver_42 : decode cX0_startOver 42 = .ok (.aload_n 0, 1) := by decide +kernel
theorem dX0_startOver_43 : decode cX0_startOver 43 = .ok (.iconst 0, 1) := by decide +kernel
theorem dX0_startOver_44 : decode cX0_startOver 44 = .ok (.putfield 96, 3) := by decide +kernel
theorem dX0_startOver_47 : decode cX0_startOver 47 = .ok (.aload_n 0, 1) := by decide +kernel
theorem dX0_startOver_48 : decode cX0_startOver 48 = .ok (.iconst 0, 1) := by decide +kernel
theorem dX0_startOver_49 : decode cX0_startOver 49 = .ok (.putfield 99, 3) := by decide +kernel
theorem dX0_startOver_52 : decode cX0_startOver 52 = .ok (.return_, 1) := by decide +kernel
theorem dX0_isProcessor_0 : decode cX0_isProcessor 0 = .ok (.iload_n 0, 1) := by decide +kernel
theorem dX0_isProcessor_1 : decode cX0_isProcessor 1 = .ok (.ifCond .lt 12, 3) := by decide +kernel
theorem dX0_isProcessor_4 : decode cX0_isProcessor 4 = .ok (.iload_n 0, 1) := by decide +kernel
theorem dX0_isProcessor_5 : decode cX0_isProcessor 5 = .ok (.iconst 4, 1) := by decide +kernel
theorem dX0_isProcessor_6 : decode cX0_isProcessor 6 = .ok (.if_icmp .ge 7, 3) := by decide +kernel
theorem dX0_isProcessor_9 : decode cX0_isProcessor 9 = .ok (.iconst 1, 1) := by decide +kernel
theorem dX0_isProcessor_10 : decode cX0_isProcessor 10 = .ok (.goto 4, 3) := by decide +kernel
theorem dX0_isProcessor_13 : decode cX0_isProcessor 13 = .ok (.iconst 0, 1) := by decide +kernel
theorem dX0_isProcessor_14 : decode cX0_isProcessor 14 = .ok (.ireturn, 1) := by decide +kernel
theorem dX0_isAddress_0 : decode cX0_isAddress 0 = .ok (.iload_n 0, 1) := by decide +kernel
theorem dX0_isAddress_1 : decode cX0_isAddress 1 = .ok (.ifCond .lt 13, 3) := by decide +kernel
theorem dX0_isAddress_4 : decode cX0_isAddress 4 = .ok (.iload_n 0, 1) := by decide +kernel
theorem dX0_isAddress_5 : decode cX0_isAddress 5 = .ok (.bipush 32, 2) := by decide +kernel
theorem dX0_isAddress_7 : decode cX0_isAddress 7 = .ok (.if_icmp .ge 7, 3) := by decide +kernel
theorem dX0_isAddress_10 : decode cX0_isAddress 10 = .ok (.iconst 1, 1) := by decide +kernel
theorem dX0_isAddress_11 : decode cX0_isAddress 11 = .ok (.goto 4, 3) := by decide +kernel
theorem dX0_isAddress_14 : decode cX0_isAddress 14 = .ok (.iconst 0, 1) := by decide +kernel
theorem dX0_isAddress_15 : decode cX0_isAddress 15 = .ok (.ireturn, 1) := by decide +kernel
theorem dX0_isBlock_0 : decode cX0_isBlock 0 = .ok (.iload_n 0, 1) := by decide +kernel
theorem dX0_isBlock_1 : decode cX0_isBlock 1 = .ok (.ifCond .lt 13, 3) := by decide +kernel
theorem dX0_isBlock_4 : decode cX0_isBlock 4 = .ok (.iload_n 0, 1) := by decide +kernel
theorem dX0_isBlock_5 : decode cX0_isBlock 5 = .ok (.bipush 16, 2) := by decide +kernel
theorem dX0_isBlock_7 : decode cX0_isBlock 7 = .ok (.if_icmp .ge 7, 3) := by decide +kernel
theorem dX0_isBlock_10 : decode cX0_isBlock 10 = .ok (.iconst 1, 1) := by decide +kernel
theorem dX0_isBlock_11 : decode cX0_isBlock 11 = .ok (.goto 4, 3) := by decide +kernel
theorem dX0_isBlock_14 : decode cX0_isBlock 14 = .ok (.iconst 0, 1) := by decide +kernel
theorem dX0_isBlock_15 : decode cX0_isBlock 15 = .ok (.ireturn, 1) := by decide +kernel
theorem dX0_isDirty_0 : decode cX0_isDirty 0 = .ok (.iload_n 0, 1) := by decide +kernel
theorem dX0_isDirty_1 : decode cX0_isDirty 1 = .ok (.iconst 3, 1) := by decide +kernel
theorem dX0_isDirty_2 : decode cX0_isDirty 2 = .ok (.if_icmp .eq 8, 3) := by decide +kernel
theorem dX0_isDirty_5 : decode cX0_isDirty 5 = .ok (.iload_n 0, 1) := by decide +kernel
theorem dX0_isDirty_6 : decode cX0_isDirty 6 = .ok (.iconst 4, 1) := by decide +kernel
theorem dX0_isDirty_7 : decode cX0_isDirty 7 = .ok (.if_icmp .ne 7, 3) := by decide +kernel
theorem dX0_isDirty_10 : decode cX0_isDirty 10 = .ok (.iconst 1, 1) := by decide +kernel
theorem dX0_isDirty_11 : decode cX0_isDirty 11 = .ok (.goto 4, 3) := by decide +kernel
theorem dX0_isDirty_14 : decode cX0_isDirty 14 = .ok (.iconst 0, 1) := by decide +kernel
theorem dX0_isDirty_15 : decode cX0_isDirty 15 = .ok (.ireturn, 1) := by decide +kernel
theorem dX0_blockOf_0 : decode cX0_blockOf 0 = .ok (.iload_n 0, 1) := by decide +kernel
theorem dX0_blockOf_1 : decode cX0_blockOf 1 = .ok (.iconst 2, 1) := by decide +kernel
theorem dX0_blockOf_2 : decode cX0_blockOf 2 = .ok (.idiv, 1) := by decide +kernel
theorem dX0_blockOf_3 : decode cX0_blockOf 3 = .ok (.ireturn, 1) := by decide +kernel
theorem dX0_lineFor_0 : decode cX0_lineFor 0 = .ok (.iload_n 0, 1) := by decide +kernel
theorem dX0_lineFor_1 : decode cX0_lineFor 1 = .ok (.iconst 2, 1) := by decide +kernel
theorem dX0_lineFor_2 : decode cX0_lineFor 2 = .ok (.imul, 1) := by decide +kernel
theorem dX0_lineFor_3 : decode cX0_lineFor 3 = .ok (.iload_n 1, 1) := by decide +kernel
theorem dX0_lineFor_4 : decode cX0_lineFor 4 = .ok (.iconst 2, 1) := by decide +kernel
theorem dX0_lineFor_5 : decode cX0_lineFor 5 = .ok (.irem, 1) := by decide +kernel
theorem dX0_lineFor_6 : decode cX0_lineFor 6 = .ok (.iadd, 1) := by decide +kernel
theorem dX0_lineFor_7 : decode cX0_lineFor 7 = .ok (.ireturn, 1) := by decide +kernel
theorem dX0_wordIndex_0 : decode cX0_wordIndex 0 = .ok (.iload_n 0, 1) := by decide +kernel
theorem dX0_wordIndex_1 : decode cX0_wordIndex 1 = .ok (.iload_n 1, 1) := by decide +kernel
theorem dX0_wordIndex_2 : decode cX0_wordIndex 2 = .ok (.invokestatic 50, 3) := by decide +kernel
theorem dX0_wordIndex_5 : decode cX0_wordIndex 5 = .ok (.invokestatic 90, 3) := by decide +kernel
theorem dX0_wordIndex_8 : decode cX0_wordIndex 8 = .ok (.iconst 2, 1) := by decide +kernel
theorem dX0_wordIndex_9 : decode cX0_wordIndex 9 = .ok (.imul, 1) := by decide +kernel
theorem dX0_wordIndex_10 : decode cX0_wordIndex 10 = .ok (.iload_n 1, 1) := by decide +kernel
theorem dX0_wordIndex_11 : decode cX0_wordIndex 11 = .ok (.iconst 2, 1) := by decide +kernel
theorem dX0_wordIndex_12 : decode cX0_wordIndex 12 = .ok (.irem, 1) := by decide +kernel
theorem dX0_wordIndex_13 : decode cX0_wordIndex 13 = .ok (.iadd, 1) := by decide +kernel
theorem dX0_wordIndex_14 : decode cX0_wordIndex 14 = .ok (.ireturn, 1) := by decide +kernel
theorem dX0_updates_0 : decode cX0_updates 0 = .ok (.aload_n 0, 1) := by decide +kernel
theorem dX0_updates_1 : decode cX0_updates 1 = .ok (.getfield 32, 3) := by decide +kernel
theorem dX0_updates_4 : decode cX0_updates 4 = .ok (.iconst 3, 1) := by decide +kernel
theorem dX0_updates_5 : decode cX0_updates 5 = .ok (.if_icmp .ne 7, 3) := by decide +kernel
theorem dX0_updates_8 : decode cX0_updates 8 = .ok (.iconst 1, 1) := by decide +kernel
theorem dX0_updates_9 : decode cX0_updates 9 = .ok (.goto 4, 3) := by decide +kernel
theorem dX0_updates_12 : decode cX0_updates 12 = .ok (.iconst 0, 1) := by decide +kernel
theorem dX0_updates_13 : decode cX0_updates 13 = .ok (.ireturn, 1) := by decide +kernel
theorem dX0_holds_0 : decode cX0_holds 0 = .ok (.iload_n 1, 1) := by decide +kernel
theorem dX0_holds_1 : decode cX0_holds 1 = .ok (.iload_n 2, 1) := by decide +kernel
theorem dX0_holds_2 : decode cX0_holds 2 = .ok (.invokestatic 90, 3) := by decide +kernel
theorem dX0_holds_5 : decode cX0_holds 5 = .ok (.istore_n 3, 1) := by decide +kernel
theorem dX0_holds_6 : decode cX0_holds 6 = .ok (.aload_n 0, 1) := by decide +kernel
theorem dX0_holds_7 : decode cX0_holds 7 = .ok (.getfield 9, 3) := by decide +kernel
theorem dX0_holds_10 : decode cX0_holds 10 = .ok (.iload_n 3, 1) := by decide +kernel
theorem dX0_holds_11 : decode cX0_holds 11 = .ok (.iaload, 1) := by decide +kernel
theorem dX0_holds_12 : decode cX0_holds 12 = .ok (.ifCond .eq 17, 3) := by decide +kernel
theorem dX0_holds_15 : decode cX0_holds 15 = .ok (.aload_n 0, 1) := by decide +kernel
theorem dX0_holds_16 : decode cX0_holds 16 = .ok (.getfield 13, 3) := by decide +kernel
theorem dX0_holds_19 : decode cX0_holds 19 = .ok (.iload_n 3, 1) := by decide +kernel
theorem dX0_holds_20 : decode cX0_holds 20 = .ok (.iaload, 1) := by decide +kernel
theorem dX0_holds_21 : decode cX0_holds 21 = .ok (.iload_n 2, 1) := by decide +kernel
theorem dX0_holds_22 : decode cX0_holds 22 = .ok (.if_icmp .ne 7, 3) := by decide +kernel
theorem dX0_holds_25 : decode cX0_holds 25 = .ok (.iconst 1, 1) := by decide +kernel
theorem dX0_holds_26 : decode cX0_holds 26 = .ok (.goto 4, 3) := by decide +kernel
theorem dX0_holds_29 : decode cX0_holds 29 = .ok (.iconst 0, 1) := by decide +kernel
theorem dX0_holds_30 : decode cX0_holds 30 = .ok (.ireturn, 1) := by decide +kernel
theorem dX0_transact_0 : decode cX0_transact 0 = .ok (.bipush 7, 2) := by decide +kernel
theorem dX0_transact_2 : decode cX0_transact 2 = .ok (.istore 4, 2) := by decide +kernel
theorem dX0_transact_4 : decode cX0_transact 4 = .ok (.iload 4, 2) := by decide +kernel
theorem dX0_transact_6 : decode cX0_transact 6 = .ok (.ifCond .le 25, 3) := by decide +kernel
theorem dX0_transact_9 : decode cX0_transact 9 = .ok (.aload_n 0, 1) := by decide +kernel
theorem dX0_transact_10 : decode cX0_transact 10 = .ok (.getfield 25, 3) := by decide +kernel
theorem dX0_transact_13 : decode cX0_transact 13 = .ok (.iload 4, 2) := by decide +kernel
theorem dX0_transact_15 : decode cX0_transact 15 = .ok (.aload_n 0, 1) := by decide +kernel
theorem dX0_transact_16 : decode cX0_transact 16 = .ok (.getfield 25, 3) := by decide +kernel
theorem dX0_transact_19 : decode cX0_transact 19 = .ok (.iload 4, 2) := by decide +kernel
theorem dX0_transact_21 : decode cX0_transact 21 = .ok (.iconst 1, 1) := by decide +kernel
theorem dX0_transact_22 : decode cX0_transact 22 = .ok (.isub, 1) := by decide +kernel
theorem dX0_transact_23 : decode cX0_transact 23 = .ok (.iaload, 1) := by decide +kernel
theorem dX0_transact_24 : decode cX0_transact 24 = .ok (.iastore, 1) := by decide +kernel
theorem dX0_transact_25 : decode cX0_transact 25 = .ok (.iinc 4 (-1), 3) := by decide +kernel
theorem dX0_transact_28 : decode cX0_transact 28 = .ok (.goto (-24), 3) := by decide +kernel
theorem dX0_transact_31 : decode cX0_transact 31 = .ok (.aload_n 0, 1) := by decide +kernel
theorem dX0_transact_32 : decode cX0_transact 32 = .ok (.getfield 25, 3) := by decide +kernel
theorem dX0_transact_35 : decode cX0_transact 35 = .ok (.iconst 0, 1) := by decide +kernel
theorem dX0_transact_36 : decode cX0_transact 36 = .ok (.bipush 64, 2) := by decide +kernel
theorem dX0_transact_38 : decode cX0_transact 38 = .ok (.iload_n 1, 1) := by decide +kernel
theorem dX0_transact_39 : decode cX0_transact 39 = .ok (.imul, 1) := by decide +kernel
theorem dX0_transact_40 : decode cX0_transact 40 = .ok (.bipush 16, 2) := by decide +kernel
theorem dX0_transact_42 : decode cX0_transact 42 = .ok (.iload_n 2, 1) := by decide +kernel
theorem dX0_transact_43 : decode cX0_transact 43 = .ok (.imul, 1) := by decide +kernel
theorem dX0_transact_44 : decode cX0_transact 44 = .ok (.iadd, 1) := by decide +kernel
theorem dX0_transact_45 : decode cX0_transact 45 = .ok (.iload_n 3, 1) := by decide +kernel
theorem dX0_transact_46 : decode cX0_transact 46 = .ok (.iadd, 1) := by decide +kernel
theorem dX0_transact_47 : decode cX0_transact 47 = .ok (.iastore, 1) := by decide +kernel
theorem dX0_transact_48 : decode cX0_transact 48 = .ok (.aload_n 0, 1) := by decide +kernel
theorem dX0_transact_49 : decode cX0_transact 49 = .ok (.getfield 22, 3) := by decide +kernel
theorem dX0_transact_52 : decode cX0_transact 52 = .ok (.iload_n 1, 1) := by decide +kernel
theorem dX0_transact_53 : decode cX0_transact 53 = .ok (.dup2, 1) := by decide +kernel
theorem dX0_transact_54 : decode cX0_transact 54 = .ok (.iaload, 1) := by decide +kernel
theorem dX0_transact_55 : decode cX0_transact 55 = .ok (.iconst 1, 1) := by decide +kernel
theorem dX0_transact_56 : decode cX0_transact 56 = .ok (.iadd, 1) := by decide +kernel
theorem dX0_transact_57 : decode cX0_transact 57 = .ok (.iastore, 1) := by decide +kernel
theorem dX0_transact_58 : decode cX0_transact 58 = .ok (.aload_n 0, 1) := by decide +kernel
theorem dX0_transact_59 : decode cX0_transact 59 = .ok (.dup, 1) := by decide +kernel
theorem dX0_transact_60 : decode cX0_transact 60 = .ok (.getfield 62, 3) := by decide +kernel
theorem dX0_transact_63 : decode cX0_transact 63 = .ok (.iconst 1, 1) := by decide +kernel
theorem dX0_transact_64 : decode cX0_transact 64 = .ok (.iadd, 1) := by decide +kernel
theorem dX0_transact_65 : decode cX0_transact 65 = .ok (.putfield 62, 3) := by decide +kernel
theorem dX0_transact_68 : decode cX0_transact 68 = .ok (.return_, 1) := by decide +kernel
theorem dX0_copyToMemory_0 : decode cX0_copyToMemory 0 = .ok (.aload_n 0, 1) := by decide +kernel
theorem dX0_copyToMemory_1 : decode cX0_copyToMemory 1 = .ok (.getfield 16, 3) := by decide +kernel
theorem dX0_copyToMemory_4 : decode cX0_copyToMemory 4 = .ok (.iload_n 1, 1) := by decide +kernel
theorem dX0_copyToMemory_5 : decode cX0_copyToMemory 5 = .ok (.iconst 2, 1) := by decide +kernel
theorem dX0_copyToMemory_6 : decode cX0_copyToMemory 6 = .ok (.imul, 1) := by decide +kernel
theorem dX0_copyToMemory_7 : decode cX0_copyToMemory 7 = .ok (.aload_n 0, 1) := by decide +kernel
theorem dX0_copyToMemory_8 : decode cX0_copyToMemory 8 = .ok (.getfield 19, 3) := by decide +kernel
theorem dX0_copyToMemory_11 : decode cX0_copyToMemory 11 = .ok (.aload_n 0, 1) := by decide +kernel
theorem dX0_copyToMemory_12 : decode cX0_copyToMemory 12 = .ok (.getfield 13, 3) := by decide +kernel
theorem dX0_copyToMemory_15 : decode cX0_copyToMemory 15 = .ok (.iload_n 1, 1) := by decide +kernel
theorem dX0_copyToMemory_16 : decode cX0_copyToMemory 16 = .ok (.iaload, 1) := by decide +kernel
theorem dX0_copyToMemory_17 : decode cX0_copyToMemory 17 = .ok (.iconst 2, 1) := by decide +kernel
theorem dX0_copyToMemory_18 : decode cX0_copyToMemory 18 = .ok (.imul, 1) := by decide +kernel
theorem dX0_copyToMemory_19 : decode cX0_copyToMemory 19 = .ok (.iconst 2, 1) := by decide +kernel
theorem dX0_copyToMemory_20 : decode cX0_copyToMemory 20 = .ok (.invokestatic 108, 3) := by decide +kernel
theorem dX0_copyToMemory_23 : decode cX0_copyToMemory 23 = .ok (.return_, 1) := by decide +kernel
theorem dX0_emptyLine_0 : decode cX0_emptyLine 0 = .ok (.aload_n 0, 1) := by decide +kernel
theorem dX0_emptyLine_1 : decode cX0_emptyLine 1 = .ok (.getfield 9, 3) := by decide +kernel
theorem dX0_emptyLine_4 : decode cX0_emptyLine 4 = .ok (.iload_n 1, 1) := by decide +kernel
theorem dX0_emptyLine_5 : decode cX0_emptyLine 5 = .ok (.iaload, 1) := by decide +kernel
theorem dX0_emptyLine_6 : decode cX0_emptyLine 6 = .ok (.invokestatic 114, 3) := by decide +kernel
theorem dX0_emptyLine_9 : decode cX0_emptyLine 9 = .ok (.istore_n 2, 1) := by decide +kernel
theorem dX0_emptyLine_10 : decode cX0_emptyLine 10 = .ok (.iload_n 2, 1) := by decide +kernel
theorem dX0_emptyLine_11 : decode cX0_emptyLine 11 = .ok (.ifCond .eq 22, 3) := by decide +kernel
theorem dX0_emptyLine_14 : decode cX0_emptyLine 14 = .ok (.aload_n 0, 1) := by decide +kernel
theorem dX0_emptyLine_15 : decode cX0_emptyLine 15 = .ok (.iconst 4, 1) := by decide +kernel
theorem dX0_emptyLine_16 : decode cX0_emptyLine 16 = .ok (.iload_n 1, 1) := by decide +kernel
theorem dX0_emptyLine_17 : decode cX0_emptyLine 17 = .ok (.iconst 2, 1) := by decide +kernel
theorem dX0_emptyLine_18 : decode cX0_emptyLine 18 = .ok (.idiv, 1) := by decide +kernel
theorem dX0_emptyLine_19 : decode cX0_emptyLine 19 = .ok (.aload_n 0, 1) := by decide +kernel
theorem dX0_emptyLine_20 : decode cX0_emptyLine 20 = .ok (.getfield 13, 3) := by decide +kernel
theorem dX0_emptyLine_23 : decode cX0_emptyLine 23 = .ok (.iload_n 1, 1) := by decide +kernel
theorem dX0_emptyLine_24 : decode cX0_emptyLine 24 = .ok (.iaload, 1) := by decide +kernel
theorem dX0_emptyLine_25 : decode cX0_emptyLine 25 = .ok (.invokevirtual 117, 3) := by decide +kernel
theorem dX0_emptyLine_28 : decode cX0_emptyLine 28 = .ok (.aload_n 0, 1) := by decide +kernel
theorem dX0_emptyLine_29 : decode cX0_emptyLine 29 = .ok (.iload_n 1, 1) := by decide +kernel
theorem dX0_emptyLine_30 : decode cX0_emptyLine 30 = .ok (.invokevirtual 120, 3) := by decide +kernel
theorem dX0_emptyLine_33 : decode cX0_emptyLine 33 = .ok (.aload_n 0, 1) := by decide +kernel
theorem dX0_emptyLine_34 : decode cX0_emptyLine 34 = .ok (.getfield 9, 3) := by decide +kernel
theorem dX0_emptyLine_37 : decode cX0_emptyLine 37 = .ok (.iload_n 1, 1) := by decide +kernel
theorem dX0_emptyLine_38 : decode cX0_emptyLine 38 = .ok (.iconst 0, 1) := by decide +kernel
theorem dX0_emptyLine_39 : decode cX0_emptyLine 39 = .ok (.iastore, 1) := by decide +kernel
theorem dX0_emptyLine_40 : decode cX0_emptyLine 40 = .ok (.iload_n 2, 1) := by decide +kernel
theorem dX0_emptyLine_41 : decode cX0_emptyLine 41 = .ok (.ireturn, 1) := by decide +kernel
theorem dX0_bringIn_0 : decode cX0_bringIn 0 = .ok (.aload_n 0, 1) := by decide +kernel
theorem dX0_bringIn_1 : decode cX0_bringIn 1 = .ok (.iload_n 1, 1) := by decide +kernel
theorem dX0_bringIn_2 : decode cX0_bringIn 2 = .ok (.iload_n 2, 1) := by decide +kernel
theorem dX0_bringIn_3 : decode cX0_bringIn 3 = .ok (.invokevirtual 81, 3) := by decide +kernel
theorem dX0_bringIn_6 : decode cX0_bringIn 6 = .ok (.ifCond .eq 16, 3) := by decide +kernel
theorem dX0_bringIn_9 : decode cX0_bringIn 9 = .ok (.aload_n 0, 1) := by decide +kernel
theorem dX0_bringIn_10 : decode cX0_bringIn 10 = .ok (.dup, 1) := by decide +kernel
theorem dX0_bringIn_11 : decode cX0_bringIn 11 = .ok (.getfield 96, 3) := by decide +kernel
theorem dX0_bringIn_14 : decode cX0_bringIn 14 = .ok (.iconst 1, 1) := by decide +kernel
theorem dX0_bringIn_15 : decode cX0_bringIn 15 = .ok (.iadd, 1) := by decide +kernel
theorem dX0_bringIn_16 : decode cX0_bringIn 16 = .ok (.putfield 96, 3) := by decide +kernel
theorem dX0_bringIn_19 : decode cX0_bringIn 19 = .ok (.goto 20, 3) := by decide +kernel
theorem dX0_bringIn_22 : decode cX0_bringIn 22 = .ok (.aload_n 0, 1) := by decide +kernel
theorem dX0_bringIn_23 : decode cX0_bringIn 23 = .ok (.dup, 1) := by decide +kernel
theorem dX0_bringIn_24 : decode cX0_bringIn 24 = .ok (.getfield 99, 3) := by decide +kernel
theorem dX0_bringIn_27 : decode cX0_bringIn 27 = .ok (.iconst 1, 1) := by decide +kernel
theorem dX0_bringIn_28 : decode cX0_bringIn 28 = .ok (.iadd, 1) := by decide +kernel
theorem dX0_bringIn_29 : decode cX0_bringIn 29 = .ok (.putfield 99, 3) := by decide +kernel
theorem dX0_bringIn_32 : decode cX0_bringIn 32 = .ok (.aload_n 0, 1) := by decide +kernel
theorem dX0_bringIn_33 : decode cX0_bringIn 33 = .ok (.iload_n 1, 1) := by decide +kernel
theorem dX0_bringIn_34 : decode cX0_bringIn 34 = .ok (.iload_n 2, 1) := by decide +kernel
theorem dX0_bringIn_35 : decode cX0_bringIn 35 = .ok (.iload_n 3, 1) := by decide +kernel
theorem dX0_bringIn_36 : decode cX0_bringIn 36 = .ok (.invokevirtual 123, 3) := by decide +kernel
theorem dX0_bringIn_39 : decode cX0_bringIn 39 = .ok (.return_, 1) := by decide +kernel
theorem dX0_load_0 : decode cX0_load 0 = .ok (.iload_n 1, 1) := by decide +kernel
theorem dX0_load_1 : decode cX0_load 1 = .ok (.iload_n 2, 1) := by decide +kernel
theorem dX0_load_2 : decode cX0_load 2 = .ok (.invokestatic 90, 3) := by decide +kernel
theorem dX0_load_5 : decode cX0_load 5 = .ok (.istore 4, 2) := by decide +kernel
theorem dX0_load_7 : decode cX0_load 7 = .ok (.aload_n 0, 1) := by decide +kernel
theorem dX0_load_8 : decode cX0_load 8 = .ok (.iload 4, 2) := by decide +kernel
theorem dX0_load_10 : decode cX0_load 10 = .ok (.invokevirtual 93, 3) := by decide +kernel
theorem dX0_load_13 : decode cX0_load 13 = .ok (.pop, 1) := by decide +kernel
theorem dX0_load_14 : decode cX0_load 14 = .ok (.aload_n 0, 1) := by decide +kernel
theorem dX0_load_15 : decode cX0_load 15 = .ok (.iload_n 3, 1) := by decide +kernel
theorem dX0_load_16 : decode cX0_load 16 = .ok (.iload_n 1, 1) := by decide +kernel
theorem dX0_load_17 : decode cX0_load 17 = .ok (.iload_n 2, 1) := by decide +kernel
theorem dX0_load_18 : decode cX0_load 18 = .ok (.invokevirtual 117, 3) := by decide +kernel
theorem dX0_load_21 : decode cX0_load 21 = .ok (.aload_n 0, 1) := by decide +kernel
theorem dX0_load_22 : decode cX0_load 22 = .ok (.iload 4, 2) := by decide +kernel
theorem dX0_load_24 : decode cX0_load 24 = .ok (.iload_n 2, 1) := by decide +kernel
theorem dX0_load_25 : decode cX0_load 25 = .ok (.invokevirtual 126, 3) := by decide +kernel
theorem dX0_load_28 : decode cX0_load 28 = .ok (.iconst 4, 1) := by decide +kernel
theorem dX0_load_29 : decode cX0_load 29 = .ok (.istore 5, 2) := by decide +kernel
theorem dX0_load_31 : decode cX0_load 31 = .ok (.iload_n 3, 1) := by decide +kernel
theorem dX0_load_32 : decode cX0_load 32 = .ok (.iconst 1, 1) := by decide +kernel
theorem dX0_load_33 : decode cX0_load 33 = .ok (.if_icmp .ne 12, 3) := by decide +kernel
theorem dX0_load_36 : decode cX0_load 36 = .ok (.aload_n 0, 1) := by decide +kernel
theorem dX0_load_37 : decode cX0_load 37 = .ok (.iload_n 1, 1) := by decide +kernel
theorem dX0_load_38 : decode cX0_load 38 = .ok (.iload_n 2, 1) := by decide +kernel
theorem dX0_load_39 : decode cX0_load 39 = .ok (.invokevirtual 129, 3) := by decide +kernel
theorem dX0_load_42 : decode cX0_load 42 = .ok (.goto 11, 3) := by decide +kernel
theorem dX0_load_45 : decode cX0_load 45 = .ok (.aload_n 0, 1) := by decide +kernel
theorem dX0_load_46 : decode cX0_load 46 = .ok (.iload_n 1, 1) := by decide +kernel
theorem dX0_load_47 : decode cX0_load 47 = .ok (.iload_n 2, 1) := by decide +kernel
theorem dX0_load_48 : decode cX0_load 48 = .ok (.invokevirtual 132, 3) := by decide +kernel
theorem dX0_load_51 : decode cX0_load 51 = .ok (.istore 5, 2) := by decide +kernel
theorem dX0_load_53 : decode cX0_load 53 = .ok (.aload_n 0, 1) := by decide +kernel
theorem dX0_load_54 : decode cX0_load 54 = .ok (.getfield 13, 3) := by decide +kernel
theorem dX0_load_57 : decode cX0_load 57 = .ok (.iload 4, 2) := by decide +kernel
theorem dX0_load_59 : decode cX0_load 59 = .ok (.iload_n 2, 1) := by decide +kernel
theorem dX0_load_60 : decode cX0_load 60 = .ok (.iastore, 1) := by decide +kernel
theorem dX0_load_61 : decode cX0_load 61 = .ok (.aload_n 0, 1) := by decide +kernel
theorem dX0_load_62 : decode cX0_load 62 = .ok (.getfield 9, 3) := by decide +kernel
theorem dX0_load_65 : decode cX0_load 65 = .ok (.iload 4, 2) := by decide +kernel
theorem dX0_load_67 : decode cX0_load 67 = .ok (.iload 5, 2) := by decide +kernel
theorem dX0_load_69 : decode cX0_load 69 = .ok (.iastore, 1) := by decide +kernel
theorem dX0_load_70 : decode cX0_load 70 = .ok (.return_, 1) := by decide +kernel
theorem dX0_fetchWords_0 : decode cX0_fetchWords 0 = .ok (.aload_n 0, 1) := by decide +kernel
theorem dX0_fetchWords_1 : decode cX0_fetchWords 1 = .ok (.iload_n 2, 1) := by decide +kernel
theorem dX0_fetchWords_2 : decode cX0_fetchWords 2 = .ok (.invokevirtual 135, 3) := by decide +kernel
theorem dX0_fetchWords_5 : decode cX0_fetchWords 5 = .ok (.istore_n 3, 1) := by decide +kernel
theorem dX0_fetchWords_6 : decode cX0_fetchWords 6 = .ok (.iload_n 3, 1) := by decide +kernel
theorem dX0_fetchWords_7 : decode cX0_fetchWords 7 = .ok (.iconst (-1), 1) := by decide +kernel
theorem dX0_fetchWords_8 : decode cX0_fetchWords 8 = .ok (.if_icmp .ne 24, 3) := by decide +kernel
theorem dX0_fetchWords_11 : decode cX0_fetchWords 11 = .ok (.aload_n 0, 1) := by decide +kernel
theorem dX0_fetchWords_12 : decode cX0_fetchWords 12 = .ok (.getfield 19, 3) := by decide +kernel
theorem dX0_fetchWords_15 : decode cX0_fetchWords 15 = .ok (.iload_n 2, 1) := by decide +kernel
theorem dX0_fetchWords_16 : decode cX0_fetchWords 16 = .ok (.iconst 2, 1) := by decide +kernel
theorem dX0_fetchWords_17 : decode cX0_fetchWords 17 = .ok (.imul, 1) := by decide +kernel
theorem dX0_fetchWords_18 : decode cX0_fetchWords 18 = .ok (.aload_n 0, 1) := by decide +kernel
theorem dX0_fetchWords_19 : decode cX0_fetchWords 19 = .ok (.getfield 16, 3) := by decide +kernel
theorem dX0_fetchWords_22 : decode cX0_fetchWords 22 = .ok (.iload_n 1, 1) := by decide +kernel
theorem dX0_fetchWords_23 : decode cX0_fetchWords 23 = .ok (.iconst 2, 1) := by decide +kernel
theorem dX0_fetchWords_24 : decode cX0_fetchWords 24 = .ok (.imul, 1) := by decide +kernel
theorem dX0_fetchWords_25 : decode cX0_fetchWords 25 = .ok (.iconst 2, 1) := by decide +kernel
theorem dX0_fetchWords_26 : decode cX0_fetchWords 26 = .ok (.invokestatic 108, 3) := by decide +kernel
theorem dX0_fetchWords_29 : decode cX0_fetchWords 29 = .ok (.goto 21, 3) := by decide +kernel
theorem dX0_fetchWords_32 : decode cX0_fetchWords 32 = .ok (.aload_n 0, 1) := by decide +kernel
theorem dX0_fetchWords_33 : decode cX0_fetchWords 33 = .ok (.getfield 16, 3) := by decide +kernel
theorem dX0_fetchWords_36 : decode cX0_fetchWords 36 = .ok (.iload_n 3, 1) := by decide +kernel
theorem dX0_fetchWords_37 : decode cX0_fetchWords 37 = .ok (.iconst 2, 1) := by decide +kernel
theorem dX0_fetchWords_38 : decode cX0_fetchWords 38 = .ok (.imul, 1) := by decide +kernel
theorem dX0_fetchWords_39 : decode cX0_fetchWords 39 = .ok (.aload_n 0, 1) := by decide +kernel
theorem dX0_fetchWords_40 : decode cX0_fetchWords 40 = .ok (.getfield 16, 3) := by decide +kernel
theorem dX0_fetchWords_43 : decode cX0_fetchWords 43 = .ok (.iload_n 1, 1) := by decide +kernel
theorem dX0_fetchWords_44 : decode cX0_fetchWords 44 = .ok (.iconst 2, 1) := by decide +kernel
theorem dX0_fetchWords_45 : decode cX0_fetchWords 45 = .ok (.imul, 1) := by decide +kernel
theorem dX0_fetchWords_46 : decode cX0_fetchWords 46 = .ok (.iconst 2, 1) := by decide +kernel
theorem dX0_fetchWords_47 : decode cX0_fetchWords 47 = .ok (.invokestatic 108, 3) := by decide +kernel
theorem dX0_fetchWords_50 : decode cX0_fetchWords 50 = .ok (.return_, 1) := by decide +kernel
theorem dX0_dirtyLine_0 : decode cX0_dirtyLine 0 = .ok (.iconst 0, 1) := by decide +kernel
theorem dX0_dirtyLine_1 : decode cX0_dirtyLine 1 = .ok (.istore_n 2, 1) := by decide +kernel
theorem dX0_dirtyLine_2 : decode cX0_dirtyLine 2 = .ok (.iload_n 2, 1) := by decide +kernel
theorem dX0_dirtyLine_3 : decode cX0_dirtyLine 3 = .ok (.iconst 4, 1) := by decide +kernel
theorem dX0_dirtyLine_4 : decode cX0_dirtyLine 4 = .ok (.if_icmp .ge 38, 3) := by decide +kernel
theorem dX0_dirtyLine_7 : decode cX0_dirtyLine 7 = .ok (.iload_n 2, 1) := by decide +kernel
theorem dX0_dirtyLine_8 : decode cX0_dirtyLine 8 = .ok (.iload_n 1, 1) := by decide +kernel
theorem dX0_dirtyLine_9 : decode cX0_dirtyLine 9 = .ok (.invokestatic 90, 3) := by decide +kernel
theorem dX0_dirtyLine_12 : decode cX0_dirtyLine 12 = .ok (.istore_n 3, 1) := by decide +kernel
theorem dX0_dirtyLine_13 : decode cX0_dirtyLine 13 = .ok (.aload_n 0, 1) := by decide +kernel
theorem dX0_dirtyLine_14 : decode cX0_dirtyLine 14 = .ok (.iload_n 2, 1) := by decide +kernel
theorem dX0_dirtyLine_15 : decode cX0_dirtyLine 15 = .ok (.iload_n 1, 1) := by decide +kernel
theorem dX0_dirtyLine_16 : decode cX0_dirtyLine 16 = .ok (.invokevirtual 81, 3) := by decide +kernel
theorem dX0_dirtyLine_19 : decode cX0_dirtyLine 19 = .ok (.ifCond .eq 17, 3) := by decide +kernel
theorem dX0_dirtyLine_22 : decode cX0_dirtyLine 22 = .ok (.aload_n 0, 1) := by decide +kernel
theorem dX0_dirtyLine_23 : decode cX0_dirtyLine 23 = .ok (.getfield 9, 3) := by decide +kernel
theorem dX0_dirtyLine_26 : decode cX0_dirtyLine 26 = .ok (.iload_n 3, 1) := by decide +kernel
theorem dX0_dirtyLine_27 : decode cX0_dirtyLine 27 = .ok (.iaload, 1) := by decide +kernel
theorem dX0_dirtyLine_28 : decode cX0_dirtyLine 28 = .ok (.invokestatic 114, 3) := by decide +kernel
theorem dX0_dirtyLine_31 : decode cX0_dirtyLine 31 = .ok (.ifCond .eq 5, 3) := by decide +kernel
theorem dX0_dirtyLine_34 : decode cX0_dirtyLine 34 = .ok (.iload_n 3, 1) := by decide +kernel
theorem dX0_dirtyLine_35 : decode cX0_dirtyLine 35 = .ok (.ireturn, 1) := by decide +kernel
theorem dX0_dirtyLine_36 : decode cX0_dirtyLine 36 = .ok (.iinc 2 1, 3) := by decide +kernel
theorem dX0_dirtyLine_39 : decode cX0_dirtyLine 39 = .ok (.goto (-37), 3) := by decide +kernel
theorem dX0_dirtyLine_42 : decode cX0_dirtyLine 42 = .ok (.iconst (-1), 1) := by decide +kernel
theorem dX0_dirtyLine_43 : decode cX0_dirtyLine 43 = .ok (.ireturn, 1) := by decide +kernel
theorem dX0_dropOthers_0 : decode cX0_dropOthers 0 = .ok (.iconst 0, 1) := by decide +kernel
theorem dX0_dropOthers_1 : decode cX0_dropOthers 1 = .ok (.istore_n 3, 1) := by decide +kernel
theorem dX0_dropOthers_2 : decode cX0_dropOthers 2 = .ok (.iload_n 3, 1) := by decide +kernel
theorem dX0_dropOthers_3 : decode cX0_dropOthers 3 = .ok (.iconst 4, 1) := by decide +kernel
theorem dX0_dropOthers_4 : decode cX0_dropOthers 4 = .ok (.if_icmp .ge 34, 3) := by decide +kernel
theorem dX0_dropOthers_7 : decode cX0_dropOthers 7 = .ok (.iload_n 3, 1) := by decide +kernel
theorem dX0_dropOthers_8 : decode cX0_dropOthers 8 = .ok (.iload_n 1, 1) := by decide +kernel
theorem dX0_dropOthers_9 : decode cX0_dropOthers 9 = .ok (.if_icmp .eq 23, 3) := by decide +kernel
theorem dX0_dropOthers_12 : decode cX0_dropOthers 12 = .ok (.aload_n 0, 1) := by decide +kernel
theorem dX0_dropOthers_13 : decode cX0_dropOthers 13 = .ok (.iload_n 3, 1) := by decide +kernel
theorem dX0_dropOthers_14 : decode cX0_dropOthers 14 = .ok (.iload_n 2, 1) := by decide +kernel
theorem dX0_dropOthers_15 : decode cX0_dropOthers 15 = .ok (.invokevirtual 81, 3) := by decide +kernel
theorem dX0_dropOthers_18 : decode cX0_dropOthers 18 = .ok (.ifCond .eq 14, 3) := by decide +kernel
theorem dX0_dropOthers_21 : decode cX0_dropOthers 21 = .ok (.aload_n 0, 1) := by decide +kernel
theorem dX0_dropOthers_22 : decode cX0_dropOthers 22 = .ok (.getfield 9, 3) := by decide +kernel
theorem dX0_dropOthers_25 : decode cX0_dropOthers 25 = .ok (.iload_n 3, 1) := by decide +kernel
theorem dX0_dropOthers_26 : decode cX0_dropOthers 26 = .ok (.iload_n 2, 1) := by decide +kernel
theorem dX0_dropOthers_27 : decode cX0_dropOthers 27 = .ok (.invokestatic 90, 3) := by decide +kernel
theorem dX0_dropOthers_30 : decode cX0_dropOthers 30 = .ok (.iconst 0, 1) := by decide +kernel
theorem dX0_dropOthers_31 : decode cX0_dropOthers 31 = .ok (.iastore, 1) := by decide +kernel
theorem dX0_dropOthers_32 : decode cX0_dropOthers 32 = .ok (.iinc 3 1, 3) := by decide +kernel
theorem dX0_dropOthers_35 : decode cX0_dropOthers 35 = .ok (.goto (-33), 3) := by decide +kernel
theorem dX0_dropOthers_38 : decode cX0_dropOthers 38 = .ok (.return_, 1) := by decide +kernel
theorem dX0_shareWithOthers_0 : decode cX0_shareWithOthers 0 = .ok (.iconst 1, 1) := by decide +kernel
theorem dX0_shareWithOthers_1 : decode cX0_shareWithOthers 1 = .ok (.istore_n 3, 1) := by decide +kernel
theorem dX0_shareWithOthers_2 : decode cX0_shareWithOthers 2 = .ok (.iconst 0, 1) := by decide +kernel
theorem dX0_shareWithOthers_3 : decode cX0_shareWithOthers 3 = .ok (.istore 4, 2) := by decide +kernel
theorem dX0_shareWithOthers_5 : decode cX0_shareWithOthers 5 = .ok (.iload 4, 2) := by decide +kernel
theorem dX0_shareWithOthers_7 : decode cX0_shareWithOthers 7 = .ok (.iconst 4, 1) := by decide +kernel
theorem dX0_shareWithOthers_8 : decode cX0_shareWithOthers 8 = .ok (.if_icmp .ge 37, 3) := by decide +kernel
theorem dX0_shareWithOthers_11 : decode cX0_shareWithOthers 11 = .ok (.iload 4, 2) := by decide +kernel
theorem dX0_shareWithOthers_13 : decode cX0_shareWithOthers 13 = .ok (.iload_n 1, 1) := by decide +kernel
theorem dX0_shareWithOthers_14 : decode cX0_shareWithOthers 14 = .ok (.if_icmp .eq 25, 3) := by decide +kernel
theorem dX0_shareWithOthers_17 : decode cX0_shareWithOthers 17 = .ok (.aload_n 0, 1) := by decide +kernel
theorem dX0_shareWithOthers_18 : decode cX0_shareWithOthers 18 = .ok (.iload 4, 2) := by decide +kernel
theorem dX0_shareWithOthers_20 : decode cX0_shareWithOthers 20 = .ok (.iload_n 2, 1) := by decide +kernel
theorem dX0_shareWithOthers_21 : decode cX0_shareWithOthers 21 = .ok (.invokevirtual 81, 3) := by decide +kernel
theorem dX0_shareWithOthers_24 : decode cX0_shareWithOthers 24 = .ok (.ifCond .eq 15, 3) := by decide +kernel
theorem dX0_shareWithOthers_27 : decode cX0_shareWithOthers 27 = .ok (.iconst 0, 1) := by decide +kernel
theorem dX0_shareWithOthers_28 : decode cX0_shareWithOthers 28 = .ok (.istore_n 3, 1) := by decide +kernel
theorem dX0_shareWithOthers_29 : decode cX0_shareWithOthers 29 = .ok (.aload_n 0, 1) := by decide +kernel
theorem dX0_shareWithOthers_30 : decode cX0_shareWithOthers 30 = .ok (.iload 4, 2) := by decide +kernel
theorem dX0_shareWithOthers_32 : decode cX0_shareWithOthers 32 = .ok (.iload_n 2, 1) := by decide +kernel
theorem dX0_shareWithOthers_33 : decode cX0_shareWithOthers 33 = .ok (.invokestatic 90, 3) := by decide +kernel
theorem dX0_shareWithOthers_36 : decode cX0_shareWithOthers 36 = .ok (.invokevirtual 138, 3) := by decide +kernel
theorem dX0_shareWithOthers_39 : decode cX0_shareWithOthers 39 = .ok (.iinc 4 1, 3) := by decide +kernel
theorem dX0_shareWithOthers_42 : decode cX0_shareWithOthers 42 = .ok (.goto (-37), 3) := by decide +kernel
theorem dX0_shareWithOthers_45 : decode cX0_shareWithOthers 45 = .ok (.iload_n 3, 1) := by decide +kernel
theorem dX0_shareWithOthers_46 : decode cX0_shareWithOthers 46 = .ok (.ifCond .eq 14, 3) := by decide +kernel
theorem dX0_shareWithOthers_49 : decode cX0_shareWithOthers 49 = .ok (.aload_n 0, 1) := by decide +kernel
theorem dX0_shareWithOthers_50 : decode cX0_shareWithOthers 50 = .ok (.getfield 32, 3) := by decide +kernel
theorem dX0_shareWithOthers_53 : decode cX0_shareWithOthers 53 = .ok (.ifCond .eq 7, 3) := by decide +kernel
theorem dX0_shareWithOthers_56 : decode cX0_shareWithOthers 56 = .ok (.iconst 2, 1) := by decide +kernel
theorem dX0_shareWithOthers_57 : decode cX0_shareWithOthers 57 = .ok (.goto 4, 3) := by decide +kernel
theorem dX0_shareWithOthers_60 : decode cX0_shareWithOthers 60 = .ok (.iconst 1, 1) := by decide +kernel
theorem dX0_shareWithOthers_61 : decode cX0_shareWithOthers 61 = .ok (.ireturn, 1) := by decide +kernel
theorem dX0_yieldToReader_0 : decode cX0_yieldToReader 0 = .ok (.aload_n 0, 1) := by decide +kernel
theorem dX0_yieldToReader_1 : decode cX0_yieldToReader 1 = .ok (.getfield 9, 3) := by decide +kernel
theorem dX0_yieldToReader_4 : decode cX0_yieldToReader 4 = .ok (.iload_n 1, 1) := by decide +kernel
theorem dX0_yieldToReader_5 : decode cX0_yieldToReader 5 = .ok (.iaload, 1) := by decide +kernel
theorem dX0_yieldToReader_6 : decode cX0_yieldToReader 6 = .ok (.invokestatic 114, 3) := by decide +kernel
theorem dX0_yieldToReader_9 : decode cX0_yieldToReader 9 = .ok (.istore_n 2, 1) := by decide +kernel
theorem dX0_yieldToReader_10 : decode cX0_yieldToReader 10 = .ok (.iload_n 2, 1) := by decide +kernel
theorem dX0_yieldToReader_11 : decode cX0_yieldToReader 11 = .ok (.ifCond .eq 19, 3) := by decide +kernel
theorem dX0_yieldToReader_14 : decode cX0_yieldToReader 14 = .ok (.aload_n 0, 1) := by decide +kernel
theorem dX0_yieldToReader_15 : decode cX0_yieldToReader 15 = .ok (.getfield 32, 3) := by decide +kernel
theorem dX0_yieldToReader_18 : decode cX0_yieldToReader 18 = .ok (.iconst 2, 1) := by decide +kernel
theorem dX0_yieldToReader_19 : decode cX0_yieldToReader 19 = .ok (.if_icmp .lt 11, 3) := by decide +kernel
theorem dX0_yieldToReader_22 : decode cX0_yieldToReader 22 = .ok (.aload_n 0, 1) := by decide +kernel
theorem dX0_yieldToReader_23 : decode cX0_yieldToReader 23 = .ok (.getfield 9, 3) := by decide +kernel
theorem dX0_yieldToReader_26 : decode cX0_yieldToReader 26 = .ok (.iload_n 1, 1) := by decide +kernel
theorem dX0_yieldToReader_27 : decode cX0_yieldToReader 27 = .ok (.iconst 3, 1) := by decide +kernel
theorem dX0_yieldToReader_28 : decode cX0_yieldToReader 28 = .ok (.iastore, 1) := by decide +kernel
theorem dX0_yieldToReader_29 : decode cX0_yieldToReader 29 = .ok (.return_, 1) := by decide +kernel
theorem dX0_yieldToReader_30 : decode cX0_yieldToReader 30 = .ok (.iload_n 2, 1) := by decide +kernel
theorem dX0_yieldToReader_31 : decode cX0_yieldToReader 31 = .ok (.ifCond .eq 8, 3) := by decide +kernel
theorem dX0_yieldToReader_34 : decode cX0_yieldToReader 34 = .ok (.aload_n 0, 1) := by decide +kernel
theorem dX0_yieldToReader_35 : decode cX0_yieldToReader 35 = .ok (.iload_n 1, 1) := by decide +kernel
theorem dX0_yieldToReader_36 : decode cX0_yieldToReader 36 = .ok (.invokevirtual 120, 3) := by decide +kernel
theorem dX0_yieldToReader_39 : decode cX0_yieldToReader 39 = .ok (.aload_n 0, 1) := by decide +kernel
theorem dX0_yieldToReader_40 : decode cX0_yieldToReader 40 = .ok (.getfield 9, 3) := by decide +kernel
theorem dX0_yieldToReader_43 : decode cX0_yieldToReader 43 = .ok (.iload_n 1, 1) := by decide +kernel
theorem dX0_yieldToReader_44 : decode cX0_yieldToReader 44 = .ok (.iconst 1, 1) := by decide +kernel
theorem dX0_yieldToReader_45 : decode cX0_yieldToReader 45 = .ok (.iastore, 1) := by decide +kernel
theorem dX0_yieldToReader_46 : decode cX0_yieldToReader 46 = .ok (.return_, 1) := by decide +kernel
theorem dX0_claim_0 : decode cX0_claim 0 = .ok (.iload_n 1, 1) := by decide +kernel
theorem dX0_claim_1 : decode cX0_claim 1 = .ok (.iload_n 2, 1) := by decide +kernel
theorem dX0_claim_2 : decode cX0_claim 2 = .ok (.invokestatic 90, 3) := by decide +kernel
theorem dX0_claim_5 : decode cX0_claim 5 = .ok (.istore_n 3, 1) := by decide +kernel
theorem dX0_claim_6 : decode cX0_claim 6 = .ok (.aload_n 0, 1) := by decide +kernel
theorem dX0_claim_7 : decode cX0_claim 7 = .ok (.getfield 9, 3) := by decide +kernel
theorem dX0_claim_10 : decode cX0_claim 10 = .ok (.iload_n 3, 1) := by decide +kernel
theorem dX0_claim_11 : decode cX0_claim 11 = .ok (.iaload, 1) := by decide +kernel
theorem dX0_claim_12 : decode cX0_claim 12 = .ok (.invokestatic 141, 3) := by decide +kernel
theorem dX0_claim_15 : decode cX0_claim 15 = .ok (.ifCond .eq 16, 3) := by decide +kernel
theorem dX0_claim_18 : decode cX0_claim 18 = .ok (.aload_n 0, 1) := by decide +kernel
theorem dX0_claim_19 : decode cX0_claim 19 = .ok (.iconst 2, 1) := by decide +kernel
theorem dX0_claim_20 : decode cX0_claim 20 = .ok (.iload_n 1, 1) := by decide +kernel
theorem dX0_claim_21 : decode cX0_claim 21 = .ok (.iload_n 2, 1) := by decide +kernel
theorem dX0_claim_22 : decode cX0_claim 22 = .ok (.invokevirtual 117, 3) := by decide +kernel
theorem dX0_claim_25 : decode cX0_claim 25 = .ok (.aload_n 0, 1) := by decide +kernel
theorem dX0_claim_26 : decode cX0_claim 26 = .ok (.iload_n 1, 1) := by decide +kernel
theorem dX0_claim_27 : decode cX0_claim 27 = .ok (.iload_n 2, 1) := by decide +kernel
theorem dX0_claim_28 : decode cX0_claim 28 = .ok (.invokevirtual 129, 3) := by decide +kernel
theorem dX0_claim_31 : decode cX0_claim 31 = .ok (.aload_n 0, 1) := by decide +kernel
theorem dX0_claim_32 : decode cX0_claim 32 = .ok (.getfield 9, 3) := by decide +kernel
theorem dX0_claim_35 : decode cX0_claim 35 = .ok (.iload_n 3, 1) := by decide +kernel
theorem dX0_claim_36 : decode cX0_claim 36 = .ok (.iconst 4, 1) := by decide +kernel
theorem dX0_claim_37 : decode cX0_claim 37 = .ok (.iastore, 1) := by decide +kernel
theorem dX0_claim_38 : decode cX0_claim 38 = .ok (.return_, 1) := by decide +kernel
theorem dX0_tellOthers_0 : decode cX0_tellOthers 0 = .ok (.iload_n 2, 1) := by decide +kernel
theorem dX0_tellOthers_1 : decode cX0_tellOthers 1 = .ok (.invokestatic 50, 3) := by decide +kernel
theorem dX0_tellOthers_4 : decode cX0_tellOthers 4 = .ok (.istore 4, 2) := by decide +kernel
theorem dX0_tellOthers_6 : decode cX0_tellOthers 6 = .ok (.iload_n 1, 1) := by decide +kernel
theorem dX0_tellOthers_7 : decode cX0_tellOthers 7 = .ok (.iload 4, 2) := by decide +kernel
theorem dX0_tellOthers_9 : decode cX0_tellOthers 9 = .ok (.invokestatic 90, 3) := by decide +kernel
theorem dX0_tellOthers_12 : decode cX0_tellOthers 12 = .ok (.istore 5, 2) := by decide +kernel
theorem dX0_tellOthers_14 : decode cX0_tellOthers 14 = .ok (.iconst 0, 1) := by decide +kernel
theorem dX0_tellOthers_15 : decode cX0_tellOthers 15 = .ok (.istore 6, 2) := by decide +kernel
theorem dX0_tellOthers_17 : decode cX0_tellOthers 17 = .ok (.aload_n 0, 1) := by decide +kernel
theorem dX0_tellOthers_18 : decode cX0_tellOthers 18 = .ok (.getfield 9, 3) := by decide +kernel
theorem dX0_tellOthers_21 : decode cX0_tellOthers 21 = .ok (.iload 5, 2) := by decide +kernel
theorem dX0_tellOthers_23 : decode cX0_tellOthers 23 = .ok (.iaload, 1) := by decide +kernel
theorem dX0_tellOthers_24 : decode cX0_tellOthers 24 = .ok (.invokestatic 141, 3) := by decide +kernel
theorem dX0_tellOthers_27 : decode cX0_tellOthers 27 = .ok (.ifCond .eq 20, 3) := by decide +kernel
theorem dX0_tellOthers_30 : decode cX0_tellOthers 30 = .ok (.aload_n 0, 1) := by decide +kernel
theorem dX0_tellOthers_31 : decode cX0_tellOthers 31 = .ok (.iconst 3, 1) := by decide +kernel
theorem dX0_tellOthers_32 : decode cX0_tellOthers 32 = .ok (.iload_n 1, 1) := by decide +kernel
theorem dX0_tellOthers_33 : decode cX0_tellOthers 33 = .ok (.iload 4, 2) := by decide +kernel
theorem dX0_tellOthers_35 : decode cX0_tellOthers 35 = .ok (.invokevirtual 117, 3) := by decide +kernel
theorem dX0_tellOthers_38 : decode cX0_tellOthers 38 = .ok (.aload_n 0, 1) := by decide +kernel
theorem dX0_tellOthers_39 : decode cX0_tellOthers 39 = .ok (.iload_n 1, 1) := by decide +kernel
theorem dX0_tellOthers_40 : decode cX0_tellOthers 40 = .ok (.iload_n 2, 1) := by decide +kernel
theorem dX0_tellOthers_41 : decode cX0_tellOthers 41 = .ok (.iload_n 3, 1) := by decide +kernel
theorem dX0_tellOthers_42 : decode cX0_tellOthers 42 = .ok (.invokevirtual 144, 3) := by decide +kernel
theorem dX0_tellOthers_45 : decode cX0_tellOthers 45 = .ok (.istore 6, 2) := by decide +kernel
theorem dX0_tellOthers_47 : decode cX0_tellOthers 47 = .ok (.aload_n 0, 1) := by decide +kernel
theorem dX0_tellOthers_48 : decode cX0_tellOthers 48 = .ok (.getfield 9, 3) := by decide +kernel
theorem dX0_tellOthers_51 : decode cX0_tellOthers 51 = .ok (.iload 5, 2) := by decide +kernel
theorem dX0_tellOthers_53 : decode cX0_tellOthers 53 = .ok (.iload 6, 2) := by decide +kernel
theorem dX0_tellOthers_55 : decode cX0_tellOthers 55 = .ok (.ifCond .eq 7, 3) := by decide +kernel
theorem dX0_tellOthers_58 : decode cX0_tellOthers 58 = .ok (.iconst 3, 1) := by decide +kernel
theorem dX0_tellOthers_59 : decode cX0_tellOthers 59 = .ok (.goto 4, 3) := by decide +kernel
theorem dX0_tellOthers_62 : decode cX0_tellOthers 62 = .ok (.iconst 4, 1) := by decide +kernel
theorem dX0_tellOthers_63 : decode cX0_tellOthers 63 = .ok (.iastore, 1) := by decide +kernel
theorem dX0_tellOthers_64 : decode cX0_tellOthers 64 = .ok (.return_, 1) := by decide +kernel
theorem dX0_isPerhapsElsewhere_0 : decode cX0_isPerhapsElsewhere 0 = .ok (.iload_n 0, 1) := by decide +kernel
theorem dX0_isPerhapsElsewhere_1 : decode cX0_isPerhapsElsewhere 1 = .ok (.iconst 1, 1) := by decide +kernel
theorem dX0_isPerhapsElsewhere_2 : decode cX0_isPerhapsElsewhere 2 = .ok (.if_icmp .eq 8, 3) := by decide +kernel
theorem dX0_isPerhapsElsewhere_5 : decode cX0_isPerhapsElsewhere 5 = .ok (.iload_n 0, 1) := by decide +kernel
theorem dX0_isPerhapsElsewhere_6 : decode cX0_isPerhapsElsewhere 6 = .ok (.iconst 3, 1) := by decide +kernel
theorem dX0_isPerhapsElsewhere_7 : decode cX0_isPerhapsElsewhere 7 = .ok (.if_icmp .ne 7, 3) := by decide +kernel
theorem dX0_isPerhapsElsewhere_10 : decode cX0_isPerhapsElsewhere 10 = .ok (.iconst 1, 1) := by decide +kernel
theorem dX0_isPerhapsElsewhere_11 : decode cX0_isPerhapsElsewhere 11 = .ok (.goto 4, 3) := by decide +kernel
theorem dX0_isPerhapsElsewhere_14 : decode cX0_isPerhapsElsewhere 14 = .ok (.iconst 0, 1) := by decide +kernel
theorem dX0_isPerhapsElsewhere_15 : decode cX0_isPerhapsElsewhere 15 = .ok (.ireturn, 1) := by decide +kernel
theorem dX0_updateOthers_0 : decode cX0_updateOthers 0 = .ok (.iconst 0, 1) := by decide +kernel
theorem dX0_updateOthers_1 : decode cX0_updateOthers 1 = .ok (.istore 4, 2) := by decide +kernel
theorem dX0_updateOthers_3 : decode cX0_updateOthers 3 = .ok (.iconst 0, 1) := by decide +kernel
theorem dX0_updateOthers_4 : decode cX0_updateOthers 4 = .ok (.istore 5, 2) := by decide +kernel
theorem dX0_updateOthers_6 : decode cX0_updateOthers 6 = .ok (.iload 5, 2) := by decide +kernel
theorem dX0_updateOthers_8 : decode cX0_updateOthers 8 = .ok (.iconst 4, 1) := by decide +kernel
theorem dX0_updateOthers_9 : decode cX0_updateOthers 9 = .ok (.if_icmp .ge 58, 3) := by decide +kernel
theorem dX0_updateOthers_12 : decode cX0_updateOthers 12 = .ok (.iload 5, 2) := by decide +kernel
theorem dX0_updateOthers_14 : decode cX0_updateOthers 14 = .ok (.iload_n 1, 1) := by decide +kernel
theorem dX0_updateOthers_15 : decode cX0_updateOthers 15 = .ok (.if_icmp .eq 46, 3) := by decide +kernel
theorem dX0_updateOthers_18 : decode cX0_updateOthers 18 = .ok (.aload_n 0, 1) := by decide +kernel
theorem dX0_updateOthers_19 : decode cX0_updateOthers 19 = .ok (.iload 5, 2) := by decide +kernel
theorem dX0_updateOthers_21 : decode cX0_updateOthers 21 = .ok (.iload_n 2, 1) := by decide +kernel
theorem dX0_updateOthers_22 : decode cX0_updateOthers 22 = .ok (.invokestatic 50, 3) := by decide +kernel
theorem dX0_updateOthers_25 : decode cX0_updateOthers 25 = .ok (.invokevirtual 81, 3) := by decide +kernel
theorem dX0_updateOthers_28 : decode cX0_updateOthers 28 = .ok (.ifCond .eq 33, 3) := by decide +kernel
theorem dX0_updateOthers_31 : decode cX0_updateOthers 31 = .ok (.iconst 1, 1) := by decide +kernel
theorem dX0_updateOthers_32 : decode cX0_updateOthers 32 = .ok (.istore 4, 2) := by decide +kernel
theorem dX0_updateOthers_34 : decode cX0_updateOthers 34 = .ok (.aload_n 0, 1) := by decide +kernel
theorem dX0_updateOthers_35 : decode cX0_updateOthers 35 = .ok (.getfield 16, 3) := by decide +kernel
theorem dX0_updateOthers_38 : decode cX0_updateOthers 38 = .ok (.iload 5, 2) := by decide +kernel
theorem dX0_updateOthers_40 : decode cX0_updateOthers 40 = .ok (.iload_n 2, 1) := by decide +kernel
theorem dX0_updateOthers_41 : decode cX0_updateOthers 41 = .ok (.invokestatic 58, 3) := by decide +kernel
theorem dX0_updateOthers_44 : decode cX0_updateOthers 44 = .ok (.iload_n 3, 1) := by decide +kernel
theorem dX0_updateOthers_45 : decode cX0_updateOthers 45 = .ok (.iastore, 1) := by decide +kernel
theorem dX0_updateOthers_46 : decode cX0_updateOthers 46 = .ok (.aload_n 0, 1) := by decide +kernel
theorem dX0_updateOthers_47 : decode cX0_updateOthers 47 = .ok (.getfield 9, 3) := by decide +kernel
theorem dX0_updateOthers_50 : decode cX0_updateOthers 50 = .ok (.iload 5, 2) := by decide +kernel
theorem dX0_updateOthers_52 : decode cX0_updateOthers 52 = .ok (.iload_n 2, 1) := by decide +kernel
theorem dX0_updateOthers_53 : decode cX0_updateOthers 53 = .ok (.invokestatic 50, 3) := by decide +kernel
theorem dX0_updateOthers_56 : decode cX0_updateOthers 56 = .ok (.invokestatic 90, 3) := by decide +kernel
theorem dX0_updateOthers_59 : decode cX0_updateOthers 59 = .ok (.iconst 1, 1) := by decide +kernel
theorem dX0_updateOthers_60 : decode cX0_updateOthers 60 = .ok (.iastore, 1) := by decide +kernel
theorem dX0_updateOthers_61 : decode cX0_updateOthers 61 = .ok (.iinc 5 1, 3) := by decide +kernel
theorem dX0_updateOthers_64 : decode cX0_updateOthers 64 = .ok (.goto (-58), 3) := by decide +kernel
theorem dX0_updateOthers_67 : decode cX0_updateOthers 67 = .ok (.iload 4, 2) := by decide +kernel
theorem dX0_updateOthers_69 : decode cX0_updateOthers 69 = .ok (.ireturn, 1) := by decide +kernel
end
section
theorem dX1_init_0 : decode cX1_init 0 = .ok (.aload_n 0, 1) := by decide +kernel
theorem dX1_init_1 : decode cX1_init 1 = .ok (.invokespecial 1, 3) := by decide +kernel
theorem dX1_init_4 : decode cX1_init 4 = .ok (.aload_n 0, 1) := by decide +kernel
theorem dX1_init_5 : decode cX1_init 5 = .ok (.bipush 64, 2) := by decide +kernel
theorem dX1_init_7 : decode cX1_init 7 = .ok (.newarray .int, 2) := by decide +kernel
theorem dX1_init_9 : decode cX1_init 9 = .ok (.putfield 7, 3) := by decide +kernel
theorem dX1_init_12 : decode cX1_init 12 = .ok (.aload_n 0, 1) := by decide +kernel
theorem dX1_init_13 : decode cX1_init 13 = .ok (.sipush 128, 3) := by decide +kernel
theorem dX1_init_16 : decode cX1_init 16 = .ok (.newarray .int, 2) := by decide +kernel
theorem dX1_init_18 : decode cX1_init 18 = .ok (.putfield 13, 3) := by decide +kernel
theorem dX1_init_21 : decode cX1_init 21 = .ok (.aload_n 0, 1) := by decide +kernel
theorem dX1_init_22 : decode cX1_init 22 = .ok (.bipush 32, 2) := by decide +kernel
theorem dX1_init_24 : decode cX1_init 24 = .ok (.newarray .int, 2) := by decide +kernel
theorem dX1_init_26 : decode cX1_init 26 = .ok (.putfield 16, 3) := by decide +kernel
theorem dX1_init_29 : decode cX1_init 29 = .ok (.aload_n 0, 1) := by decide +kernel
theorem dX1_init_30 : decode cX1_init 30 = .ok (.iconst 5, 1) := by decide +kernel
theorem dX1_init_31 : decode cX1_init 31 = .ok (.newarray .int, 2) := by decide +kernel
theorem dX1_init_33 : decode cX1_init 33 = .ok (.putfield 19, 3) := by decide +kernel
theorem dX1_init_36 : decode cX1_init 36 = .ok (.aload_n 0, 1) := by decide +kernel
theorem dX1_init_37 : decode cX1_init 37 = .ok (.bipush 8, 2) := by decide +kernel
theorem dX1_init_39 : decode cX1_init 39 = .ok (.newarray .int, 2) := by decide +kernel
theorem dX1_init_41 : decode cX1_init 41 = .ok (.putfield 22, 3) := by decide +kernel
theorem dX1_init_44 : decode cX1_init 44 = .ok (.aload_n 0, 1) := by decide +kernel
theorem dX1_init_45 : decode cX1_init 45 = .ok (.iconst 0, 1) := by decide +kernel
theorem dX1_init_46 : decode cX1_init 46 = .ok (.putfield 25, 3) := by decide +kernel
theorem dX1_init_49 : decode cX1_init 49 = .ok (.return_, 1) := by decide +kernel
theorem dX1_choose_0 : decode cX1_choose 0 = .ok (.aload_n 0, 1) := by decide +kernel
theorem dX1_choose_1 : decode cX1_choose 1 = .ok (.iconst 0, 1) := by decide +kernel
theorem dX1_choose_2 : decode cX1_choose 2 = .ok (.putfield 29, 3) := by decide +kernel
theorem dX1_choose_5 : decode cX1_choose 5 = .ok (.iload_n 1, 1) := by decide +kernel
theorem dX1_choose_6 : decode cX1_choose 6 = .ok (.ifCond .lt 8, 3) := by decide +kernel
theorem dX1_choose_9 : decode cX1_choose 9 = .ok (.iload_n 1, 1) := by decide +kernel
theorem dX1_choose_10 : decode cX1_choose 10 = .ok (.iconst 3, 1) := by decide +kernel
theorem dX1_choose_11 : decode cX1_choose 11 = .ok (.if_icmp .le 5, 3) := by decide +kernel
theorem dX1_choose_14 : decode cX1_choose 14 = .ok (.iconst 0, 1) := by decide +kernel
theorem dX1_choose_15 : decode cX1_choose 15 = .ok (.ireturn, 1) := by decide +kernel
theorem dX1_choose_16 : decode cX1_choose 16 = .ok (.iconst 0, 1) := by decide +kernel
theorem dX1_choose_17 : decode cX1_choose 17 = .ok (.istore_n 2, 1) := by decide +kernel
theorem dX1_choose_18 : decode cX1_choose 18 = .ok (.iload_n 2, 1) := by decide +kernel
theorem dX1_choose_19 : decode cX1_choose 19 = .ok (.bipush 64, 2) := by decide +kernel
theorem dX1_choose_21 : decode cX1_choose 21 = .ok (.if_icmp .ge 16, 3) := by decide +kernel
theorem dX1_choose_24 : decode cX1_choose 24 = .ok (.aload_n 0, 1) := by decide +kernel
theorem dX1_choose_25 : decode cX1_choose 25 = .ok (.getfield 7, 3) := by decide +kernel
theorem dX1_choose_28 : decode cX1_choose 28 = .ok (.iload_n 2, 1) := by decide +kernel
theorem dX1_choose_29 : decode cX1_choose 29 = .ok (.iconst 0, 1) := by decide +kernel
theorem dX1_choose_30 : decode cX1_choose 30 = .ok (.iastore, 1) := by decide +kernel
theorem dX1_choose_31 : decode cX1_choose 31 = .ok (.iinc 2 1, 3) := by decide +kernel
theorem dX1_choose_34 : decode cX1_choose 34 = .ok (.goto (-16), 3) := by decide +kernel
theorem dX1_choose_37 : decode cX1_choose 37 = .ok (.iconst 0, 1) := by decide +kernel
theorem dX1_choose_38 : decode cX1_choose 38 = .ok (.istore_n 2, 1) := by decide +kernel
theorem dX1_choose_39 : decode cX1_choose 39 = .ok (.iload_n 2, 1) := by decide +kernel
theorem dX1_choose_40 : decode cX1_choose 40 = .ok (.bipush 32, 2) := by decide +kernel
theorem dX1_choose_42 : decode cX1_choose 42 = .ok (.if_icmp .ge 16, 3) := by decide +kernel
theorem dX1_choose_45 : decode cX1_choose 45 = .ok (.aload_n 0, 1) := by decide +kernel
theorem dX1_choose_46 : decode cX1_choose 46 = .ok (.getfield 16, 3) := by decide +kernel
theorem dX1_choose_49 : decode cX1_choose 49 = .ok (.iload_n 2, 1) := by decide +kernel
theorem dX1_choose_50 : decode cX1_choose 50 = .ok (.iconst 0, 1) := by decide +kernel
theorem dX1_choose_51 : decode cX1_choose 51 = .ok (.iastore, 1) := by decide +kernel
theorem dX1_choose_52 : decode cX1_choose 52 = .ok (.iinc 2 1, 3) := by decide +kernel
theorem dX1_choose_55 : decode cX1_choose 55 = .ok (.goto (-16), 3) := by decide +kernel
theorem dX1_choose_58 : decode cX1_choose 58 = .ok (.iconst 0, 1) := by decide +kernel
theorem dX1_choose_59 : decode cX1_choose 59 = .ok (.istore_n 2, 1) := by decide +kernel
theorem dX1_choose_60 : decode cX1_choose 60 = .ok (.iload_n 2, 1) := by decide +kernel
theorem dX1_choose_61 : decode cX1_choose 61 = .ok (.iconst 5, 1) := by decide +kernel
theorem dX1_choose_62 : decode cX1_choose 62 = .ok (.if_icmp .ge 16, 3) := by decide +kernel
theorem dX1_choose_65 : decode cX1_choose 65 = .ok (.aload_n 0, 1) := by decide +kernel
theorem dX1_choose_66 : decode cX1_choose 66 = .ok (.getfield 19, 3) := by decide +kernel
theorem dX1_choose_69 : decode cX1_choose 69 = .ok (.iload_n 2, 1) := by decide +kernel
theorem dX1_choose_70 : decode cX1_choose 70 = .ok (.iconst 0, 1) := by decide +kernel
theorem dX1_choose_71 : decode cX1_choose 71 = .ok (.iastore, 1) := by decide +kernel
theorem dX1_choose_72 : decode cX1_choose 72 = .ok (.iinc 2 1, 3) := by decide +kernel
theorem dX1_choose_75 : decode cX1_choose 75 = .ok (.goto (-15), 3) := by decide +kernel
theorem dX1_choose_78 : decode cX1_choose 78 = .ok (.aload_n 0, 1) := by decide +kernel
theorem dX1_choose_79 : decode cX1_choose 79 = .ok (.iload_n 1, 1) := by decide +kernel
theorem dX1_choose_80 : decode cX1_choose 80 = .ok (.putfield 25, 3) := by decide +kernel
theorem dX1_choose_83 : decode cX1_choose 83 = .ok (.aload_n 0, 1) := by decide +kernel
theorem dX1_choose_84 : decode cX1_choose 84 = .ok (.iconst 0, 1) := by decide +kernel
theorem dX1_choose_85 : decode cX1_choose 85 = .ok (.putfield 32, 3) := by decide +kernel
theorem dX1_choose_88 : decode cX1_choose 88 = .ok (.aload_n 0, 1) := by decide +kernel
theorem dX1_choose_89 : decode cX1_choose 89 = .ok (.iconst 0, 1) := by decide +kernel
theorem dX1_choose_90 : decode cX1_choose 90 = .ok (.putfield 35, 3) := by decide +kernel
theorem dX1_choose_93 : decode cX1_choose 93 = .ok (.aload_n 0, 1) := by decide +kernel
theorem dX1_choose_94 : decode cX1_choose 94 = .ok (.iconst 0, 1) := by decide +kernel
theorem dX1_choose_95 : decode cX1_choose 95 = .ok (.putfield 38, 3) := by decide +kernel
theorem dX1_choose_98 : decode cX1_choose 98 = .ok (.iconst 1, 1) := by decide +kernel
theorem dX1_choose_99 : decode cX1_choose 99 = .ok (.ireturn, 1) := by decide +kernel
theorem dX1_protocol_0 : decode cX1_protocol 0 = .ok (.aload_n 0, 1) := by decide +kernel
theorem dX1_protocol_1 : decode cX1_protocol 1 = .ok (.getfield 25, 3) := by decide +kernel
theorem dX1_protocol_4 : decode cX1_protocol 4 = .ok (.ireturn, 1) := by decide +kernel
theorem dX1_invalidates_0 : decode cX1_invalidates 0 = .ok (.aload_n 0, 1) := by decide +kernel
theorem dX1_invalidates_1 : decode cX1_invalidates 1 = .ok (.getfield 25, 3) := by decide +kernel
theorem dX1_invalidates_4 : decode cX1_invalidates 4 = .ok (.iconst 3, 1) := by decide +kernel
theorem dX1_invalidates_5 : decode cX1_invalidates 5 = .ok (.if_icmp .ge 7, 3) := by decide +kernel
theorem dX1_invalidates_8 : decode cX1_invalidates 8 = .ok (.iconst 1, 1) := by decide +kernel
theorem dX1_invalidates_9 : decode cX1_invalidates 9 = .ok (.goto 4, 3) := by decide +kernel
theorem dX1_invalidates_12 : decode cX1_invalidates 12 = .ok (.iconst 0, 1) := by decide +kernel
theorem dX1_invalidates_13 : decode cX1_invalidates 13 = .ok (.ireturn, 1) := by decide +kernel
theorem dX1_within_0 : decode cX1_within 0 = .ok (.iload_n 0, 1) := by decide +kernel
theorem dX1_within_1 : decode cX1_within 1 = .ok (.ifCond .lt 12, 3) := by decide +kernel
theorem dX1_within_4 : decode cX1_within 4 = .ok (.iload_n 0, 1) := by decide +kernel
theorem dX1_within_5 : decode cX1_within 5 = .ok (.iload_n 1, 1) := by decide +kernel
theorem dX1_within_6 : decode cX1_within 6 = .ok (.if_icmp .gt 7, 3) := by decide +kernel
theorem dX1_within_9 : decode cX1_within 9 = .ok (.iconst 1, 1) := by decide +kernel
theorem dX1_within_10 : decode cX1_within 10 = .ok (.goto 4, 3) := by decide +kernel
theorem dX1_within_13 : decode cX1_within 13 = .ok (.iconst 0, 1) := by decide +kernel
theorem dX1_within_14 : decode cX1_within 14 = .ok (.ireturn, 1) := by decide +kernel
theorem dX1_stateOf_0 : decode cX1_stateOf 0 = .ok (.aload_n 0, 1) := by decide +kernel
theorem dX1_stateOf_1 : decode cX1_stateOf 1 = .ok (.getfield 7, 3) := by decide +kernel
theorem dX1_stateOf_4 : decode cX1_stateOf 4 = .ok (.bipush 16, 2) := by decide +kernel
theorem dX1_stateOf_6 : decode cX1_stateOf 6 = .ok (.iload_n 1, 1) := by decide +kernel
theorem dX1_stateOf_7 : decode cX1_stateOf 7 = .ok (.imul, 1) := by decide +kernel
theorem dX1_stateOf_8 : decode cX1_stateOf 8 = .ok (.iload_n 2, 1) := by decide +kernel
theorem dX1_stateOf_9 : decode cX1_stateOf 9 = .ok (.iadd, 1) := by decide +kernel
theorem dX1_stateOf_10 : decode cX1_stateOf 10 = .ok (.iaload, 1) := by decide +kernel
theorem dX1_stateOf_11 : decode cX1_stateOf 11 = .ok (.ireturn, 1) := by decide +kernel
theorem dX1_setState_0 : decode cX1_setState 0 = .ok (.aload_n 0, 1) := by decide +kernel
theorem dX1_setState_1 : decode cX1_setState 1 = .ok (.getfield 7, 3) := by decide +kernel
theorem dX1_setState_4 : decode cX1_setState 4 = .ok (.bipush 16, 2) := by decide +kernel
theorem dX1_setState_6 : decode cX1_setState 6 = .ok (.iload_n 1, 1) := by decide +kernel
theorem dX1_setState_7 : decode cX1_setState 7 = .ok (.imul, 1) := by decide +kernel
theorem dX1_setState_8 : decode cX1_setState 8 = .ok (.iload_n 2, 1) := by decide +kernel
theorem dX1_setState_9 : decode cX1_setState 9 = .ok (.iadd, 1) := by decide +kernel
theorem dX1_setState_10 : decode cX1_setState 10 = .ok (.iload_n 3, 1) := by decide +kernel
theorem dX1_setState_11 : decode cX1_setState 11 = .ok (.iastore, 1) := by decide +kernel
theorem dX1_setState_12 : decode cX1_setState 12 = .ok (.return_, 1) := by decide +kernel
theorem dX1_transact_0 : decode cX1_transact 0 = .ok (.aload_n 0, 1) := by decide +kernel
theorem dX1_transact_1 : decode cX1_transact 1 = .ok (.getfield 19, 3) := by decide +kernel
theorem dX1_transact_4 : decode cX1_transact 4 = .ok (.iload_n 1, 1) := by decide +kernel
theorem dX1_transact_5 : decode cX1_transact 5 = .ok (.dup2, 1) := by decide +kernel
theorem dX1_transact_6 : decode cX1_transact 6 = .ok (.iaload, 1) := by decide +kernel
theorem dX1_transact_7 : decode cX1_transact 7 = .ok (.iconst 1, 1) := by decide +kernel
theorem dX1_transact_8 : decode cX1_transact 8 = .ok (.iadd, 1) := by decide +kernel
theorem dX1_transact_9 : decode cX1_transact 9 = .ok (.iastore, 1) := by decide +kernel
theorem dX1_transact_10 : decode cX1_transact 10 = .ok (.bipush 7, 2) := by decide +kernel
theorem dX1_transact_12 : decode cX1_transact 12 = .ok (.istore 4, 2) := by decide +kernel
theorem dX1_transact_14 : decode cX1_transact 14 = .ok (.iload 4, 2) := by decide +kernel
theorem dX1_transact_16 : decode cX1_transact 16 = .ok (.ifCond .le 25, 3) := by decide +kernel
theorem dX1_transact_19 : decode cX1_transact 19 = .ok (.aload_n 0, 1) := by decide +kernel
theorem dX1_transact_20 : decode cX1_transact 20 = .ok (.getfield 22, 3) := by decide +kernel
theorem dX1_transact_23 : decode cX1_transact 23 = .ok (.iload 4, 2) := by decide +kernel
theorem dX1_transact_25 : decode cX1_transact 25 = .ok (.aload_n 0, 1) := by decide +kernel
theorem dX1_transact_26 : decode cX1_transact 26 = .ok (.getfield 22, 3) := by decide +kernel
theorem dX1_transact_29 : decode cX1_transact 29 = .ok (.iload 4, 2) := by decide +kernel
theorem dX1_transact_31 : decode cX1_transact 31 = .ok (.iconst 1, 1) := by decide +kernel
theorem dX1_transact_32 : decode cX1_transact 32 = .ok (.isub, 1) := by decide +kernel
theorem dX1_transact_33 : decode cX1_transact 33 = .ok (.iaload, 1) := by decide +kernel
theorem dX1_transact_34 : decode cX1_transact 34 = .ok (.iastore, 1) := by decide +kernel
theorem dX1_transact_35 : decode cX1_transact 35 = .ok (.iinc 4 (-1), 3) := by decide +kernel
theorem dX1_transact_38 : decode cX1_transact 38 = .ok (.goto (-24), 3) := by decide +kernel
theorem dX1_transact_41 : decode cX1_transact 41 = .ok (.aload_n 0, 1) := by decide +kernel
theorem dX1_transact_42 : decode cX1_transact 42 = .ok (.getfield 22, 3) := by decide +kernel
theorem dX1_transact_45 : decode cX1_transact 45 = .ok (.iconst 0, 1) := by decide +kernel
theorem dX1_transact_46 : decode cX1_transact 46 = .ok (.bipush 64, 2) := by decide +kernel
theorem dX1_transact_48 : decode cX1_transact 48 = .ok (.iload_n 1, 1) := by decide +kernel
theorem dX1_transact_49 : decode cX1_transact 49 = .ok (.imul, 1) := by decide +kernel
theorem dX1_transact_50 : decode cX1_transact 50 = .ok (.bipush 16, 2) := by decide +kernel
theorem dX1_transact_52 : decode cX1_transact 52 = .ok (.iload_n 2, 1) := by decide +kernel
theorem dX1_transact_53 : decode cX1_transact 53 = .ok (.imul, 1) := by decide +kernel
theorem dX1_transact_54 : decode cX1_transact 54 = .ok (.iadd, 1) := by decide +kernel
theorem dX1_transact_55 : decode cX1_transact 55 = .ok (.iload_n 3, 1) := by decide +kernel
theorem dX1_transact_56 : decode cX1_transact 56 = .ok (.iadd, 1) := by decide +kernel
theorem dX1_transact_57 : decode cX1_transact 57 = .ok (.iastore, 1) := by decide +kernel
theorem dX1_transact_58 : decode cX1_transact 58 = .ok (.aload_n 0, 1) := by decide +kernel
theorem dX1_transact_59 : decode cX1_transact 59 = .ok (.dup, 1) := by decide +kernel
theorem dX1_transact_60 : decode cX1_transact 60 = .ok (.getfield 32, 3) := by decide +kernel
theorem dX1_transact_63 : decode cX1_transact 63 = .ok (.iconst 1, 1) := by decide +kernel
theorem dX1_transact_64 : decode cX1_transact 64 = .ok (.iadd, 1) := by decide +kernel
theorem dX1_transact_65 : decode cX1_transact 65 = .ok (.putfield 32, 3) := by decide +kernel
theorem dX1_transact_68 : decode cX1_transact 68 = .ok (.return_, 1) := by decide +kernel
theorem dX1_toMemory_0 : decode cX1_toMemory 0 = .ok (.iconst 0, 1) := by decide +kernel
theorem dX1_toMemory_1 : decode cX1_toMemory 1 = .ok (.istore_n 3, 1) := by decide +kernel
theorem dX1_toMemory_2 : decode cX1_toMemory 2 = .ok (.iload_n 3, 1) := by decide +kernel
theorem dX1_toMemory_3 : decode cX1_toMemory 3 = .ok (.iconst 2, 1) := by decide +kernel
theorem dX1_toMemory_4 : decode cX1_toMemory 4 = .ok (.if_icmp .ge 34, 3) := by decide +kernel
theorem dX1_toMemory_7 : decode cX1_toMemory 7 = .ok (.aload_n 0, 1) := by decide +kernel
theorem dX1_toMemory_8 : decode cX1_toMemory 8 = .ok (.getfield 16, 3) := by decide +kernel
theorem dX1_toMemory_11 : decode cX1_toMemory 11 = .ok (.iconst 2, 1) := by decide +kernel
theorem dX1_toMemory_12 : decode cX1_toMemory 12 = .ok (.iload_n 2, 1) := by decide +kernel
theorem dX1_toMemory_13 : decode cX1_toMemory 13 = .ok (.imul, 1) := by decide +kernel
theorem dX1_toMemory_14 : decode cX1_toMemory 14 = .ok (.iload_n 3, 1) := by decide +kernel
theorem dX1_toMemory_15 : decode cX1_toMemory 15 = .ok (.iadd, 1) := by decide +kernel
theorem dX1_toMemory_16 : decode cX1_toMemory 16 = .ok (.aload_n 0, 1) := by decide +kernel
theorem dX1_toMemory_17 : decode cX1_toMemory 17 = .ok (.getfield 13, 3) := by decide +kernel
theorem dX1_toMemory_20 : decode cX1_toMemory 20 = .ok (.bipush 32, 2) := by decide +kernel
theorem dX1_toMemory_22 : decode cX1_toMemory 22 = .ok (.iload_n 1, 1) := by decide +kernel
theorem dX1_toMemory_23 : decode cX1_toMemory 23 = .ok (.imul, 1) := by decide +kernel
theorem dX1_toMemory_24 : decode cX1_toMemory 24 = .ok (.iconst 2, 1) := by decide +kernel
theorem dX1_toMemory_25 : decode cX1_toMemory 25 = .ok (.iload_n 2, 1) := by decide +kernel
theorem dX1_toMemory_26 : decode cX1_toMemory 26 = .ok (.imul, 1) := by decide +kernel
theorem dX1_toMemory_27 : decode cX1_toMemory 27 = .ok (.iadd, 1) := by decide +kernel
theorem dX1_toMemory_28 : decode cX1_toMemory 28 = .ok (.iload_n 3, 1) := by decide +kernel
theorem dX1_toMemory_29 : decode cX1_toMemory 29 = .ok (.iadd, 1) := by decide +kernel
theorem dX1_toMemory_30 : decode cX1_toMemory 30 = .ok (.iaload, 1) := by decide +kernel
theorem dX1_toMemory_31 : decode cX1_toMemory 31 = .ok (.iastore, 1) := by decide +kernel
theorem dX1_toMemory_32 : decode cX1_toMemory 32 = .ok (.iinc 3 1, 3) := by decide +kernel
theorem dX1_toMemory_35 : decode cX1_toMemory 35 = .ok (.goto (-33), 3) := by decide +kernel
theorem dX1_toMemory_38 : decode cX1_toMemory 38 = .ok (.return_, 1) := by decide +kernel
theorem dX1_empty_0 : decode cX1_empty 0 = .ok (.aload_n 0, 1) := by decide +kernel
theorem dX1_empty_1 : decode cX1_empty 1 = .ok (.iload_n 1, 1) := by decide +kernel
theorem dX1_empty_2 : decode cX1_empty 2 = .ok (.iload_n 2, 1) := by decide +kernel
theorem dX1_empty_3 : decode cX1_empty 3 = .ok (.invokevirtual 41, 3) := by decide +kernel
theorem dX1_empty_6 : decode cX1_empty 6 = .ok (.iconst 3, 1) := by decide +kernel
theorem dX1_empty_7 : decode cX1_empty 7 = .ok (.if_icmp .lt 7, 3) := by decide +kernel
theorem dX1_empty_10 : decode cX1_empty 10 = .ok (.iconst 1, 1) := by decide +kernel
theorem dX1_empty_11 : decode cX1_empty 11 = .ok (.goto 4, 3) := by decide +kernel
theorem dX1_empty_14 : decode cX1_empty 14 = .ok (.iconst 0, 1) := by decide +kernel
theorem dX1_empty_15 : decode cX1_empty 15 = .ok (.istore_n 3, 1) := by decide +kernel
theorem dX1_empty_16 : decode cX1_empty 16 = .ok (.iload_n 3, 1) := by decide +kernel
theorem dX1_empty_17 : decode cX1_empty 17 = .ok (.ifCond .eq 16, 3) := by decide +kernel
theorem dX1_empty_20 : decode cX1_empty 20 = .ok (.aload_n 0, 1) := by decide +kernel
theorem dX1_empty_21 : decode cX1_empty 21 = .ok (.iconst 4, 1) := by decide +kernel
theorem dX1_empty_22 : decode cX1_empty 22 = .ok (.iload_n 1, 1) := by decide +kernel
theorem dX1_empty_23 : decode cX1_empty 23 = .ok (.iload_n 2, 1) := by decide +kernel
theorem dX1_empty_24 : decode cX1_empty 24 = .ok (.invokevirtual 45, 3) := by decide +kernel
theorem dX1_empty_27 : decode cX1_empty 27 = .ok (.aload_n 0, 1) := by decide +kernel
theorem dX1_empty_28 : decode cX1_empty 28 = .ok (.iload_n 1, 1) := by decide +kernel
theorem dX1_empty_29 : decode cX1_empty 29 = .ok (.iload_n 2, 1) := by decide +kernel
theorem dX1_empty_30 : decode cX1_empty 30 = .ok (.invokevirtual 49, 3) := by decide +kernel
theorem dX1_empty_33 : decode cX1_empty 33 = .ok (.aload_n 0, 1) := by decide +kernel
theorem dX1_empty_34 : decode cX1_empty 34 = .ok (.iload_n 1, 1) := by decide +kernel
theorem dX1_empty_35 : decode cX1_empty 35 = .ok (.iload_n 2, 1) := by decide +kernel
theorem dX1_empty_36 : decode cX1_empty 36 = .ok (.iconst 0, 1) := by decide +kernel
theorem dX1_empty_37 : decode cX1_empty 37 = .ok (.invokevirtual 53, 3) := by decide +kernel
theorem dX1_empty_40 : decode cX1_empty 40 = .ok (.iload_n 3, 1) := by decide +kernel
theorem dX1_empty_41 : decode cX1_empty 41 = .ok (.ireturn, 1) := by decide +kernel
theorem dX1_others_0 : decode cX1_others 0 = .ok (.iconst 0, 1) := by decide +kernel
theorem dX1_others_1 : decode cX1_others 1 = .ok (.istore_n 3, 1) := by decide +kernel
theorem dX1_others_2 : decode cX1_others 2 = .ok (.iconst 0, 1) := by decide +kernel
theorem dX1_others_3 : decode cX1_others 3 = .ok (.istore 4, 2) := by decide +kernel
theorem dX1_others_5 : decode cX1_others 5 = .ok (.iload 4, 2) := by decide +kernel
theorem dX1_others_7 : decode cX1_others 7 = .ok (.iconst 4, 1) := by decide +kernel
theorem dX1_others_8 : decode cX1_others 8 = .ok (.if_icmp .ge 28, 3) := by decide +kernel
theorem dX1_others_11 : decode cX1_others 11 = .ok (.iload 4, 2) := by decide +kernel
theorem dX1_others_13 : decode cX1_others 13 = .ok (.iload_n 1, 1) := by decide +kernel
theorem dX1_others_14 : decode cX1_others 14 = .ok (.if_icmp .eq 16, 3) := by decide +kernel
theorem dX1_others_17 : decode cX1_others 17 = .ok (.aload_n 0, 1) := by decide +kernel
theorem dX1_others_18 : decode cX1_others 18 = .ok (.iload 4, 2) := by decide +kernel
theorem dX1_others_20 : decode cX1_others 20 = .ok (.iload_n 2, 1) := by decide +kernel
theorem dX1_others_21 : decode cX1_others 21 = .ok (.invokevirtual 41, 3) := by decide +kernel
theorem dX1_others_24 : decode cX1_others 24 = .ok (.ifCond .le 6, 3) := by decide +kernel
theorem dX1_others_27 : decode cX1_others 27 = .ok (.iinc 3 1, 3) := by decide +kernel
theorem dX1_others_30 : decode cX1_others 30 = .ok (.iinc 4 1, 3) := by decide +kernel
theorem dX1_others_33 : decode cX1_others 33 = .ok (.goto (-28), 3) := by decide +kernel
theorem dX1_others_36 : decode cX1_others 36 = .ok (.iload_n 3, 1) := by decide +kernel
theorem dX1_others_37 : decode cX1_others 37 = .ok (.ireturn, 1) := by decide +kernel
theorem dX1_dirtyHolder_0 : decode cX1_dirtyHolder 0 = .ok (.iconst 0, 1) := by decide +kernel
theorem dX1_dirtyHolder_1 : decode cX1_dirtyHolder 1 = .ok (.istore_n 2, 1) := by decide +kernel
theorem dX1_dirtyHolder_2 : decode cX1_dirtyHolder 2 = .ok (.iload_n 2, 1) := by decide +kernel
theorem dX1_dirtyHolder_3 : decode cX1_dirtyHolder 3 = .ok (.iconst 4, 1) := by decide +kernel
theorem dX1_dirtyHolder_4 : decode cX1_dirtyHolder 4 = .ok (.if_icmp .ge 21, 3) := by decide +kernel
theorem dX1_dirtyHolder_7 : decode cX1_dirtyHolder 7 = .ok (.aload_n 0, 1) := by decide +kernel
theorem dX1_dirtyHolder_8 : decode cX1_dirtyHolder 8 = .ok (.iload_n 2, 1) := by decide +kernel
theorem dX1_dirtyHolder_9 : decode cX1_dirtyHolder 9 = .ok (.iload_n 1, 1) := by decide +kernel
theorem dX1_dirtyHolder_10 : decode cX1_dirtyHolder 10 = .ok (.invokevirtual 41, 3) := by decide +kernel
theorem dX1_dirtyHolder_13 : decode cX1_dirtyHolder 13 = .ok (.iconst 3, 1) := by decide +kernel
theorem dX1_dirtyHolder_14 : decode cX1_dirtyHolder 14 = .ok (.if_icmp .lt 5, 3) := by decide +kernel
theorem dX1_dirtyHolder_17 : decode cX1_dirtyHolder 17 = .ok (.iload_n 2, 1) := by decide +kernel
theorem dX1_dirtyHolder_18 : decode cX1_dirtyHolder 18 = .ok (.ireturn, 1) := by decide +kernel
theorem dX1_dirtyHolder_19 : decode cX1_dirtyHolder 19 = .ok (.iinc 2 1, 3) := by decide +kernel
theorem dX1_dirtyHolder_22 : decode cX1_dirtyHolder 22 = .ok (.goto (-20), 3) := by decide +kernel
theorem dX1_dirtyHolder_25 : decode cX1_dirtyHolder 25 = .ok (.iconst (-1), 1) := by decide +kernel
theorem dX1_dirtyHolder_26 : decode cX1_dirtyHolder 26 = .ok (.ireturn, 1) := by decide +kernel
theorem dX1_emptyOthers_0 : decode cX1_emptyOthers 0 = .ok (.iconst 0, 1) := by decide +kernel
theorem dX1_emptyOthers_1 : decode cX1_emptyOthers 1 = .ok (.istore_n 3, 1) := by decide +kernel
theorem dX1_emptyOthers_2 : decode cX1_emptyOthers 2 = .ok (.iload_n 3, 1) := by decide +kernel
theorem dX1_emptyOthers_3 : decode cX1_emptyOthers 3 = .ok (.iconst 4, 1) := by decide +kernel
theorem dX1_emptyOthers_4 : decode cX1_emptyOthers 4 = .ok (.if_icmp .ge 21, 3) := by decide +kernel
theorem dX1_emptyOthers_7 : decode cX1_emptyOthers 7 = .ok (.iload_n 3, 1) := by decide +kernel
theorem dX1_emptyOthers_8 : decode cX1_emptyOthers 8 = .ok (.iload_n 1, 1) := by decide +kernel
theorem dX1_emptyOthers_9 : decode cX1_emptyOthers 9 = .ok (.if_icmp .eq 10, 3) := by decide +kernel
theorem dX1_emptyOthers_12 : decode cX1_emptyOthers 12 = .ok (.aload_n 0, 1) := by decide +kernel
theorem dX1_emptyOthers_13 : decode cX1_emptyOthers 13 = .ok (.iload_n 3, 1) := by decide +kernel
theorem dX1_emptyOthers_14 : decode cX1_emptyOthers 14 = .ok (.iload_n 2, 1) := by decide +kernel
theorem dX1_emptyOthers_15 : decode cX1_emptyOthers 15 = .ok (.iconst 0, 1) := by decide +kernel
theorem dX1_emptyOthers_16 : decode cX1_emptyOthers 16 = .ok (.invokevirtual 53, 3) := by decide +kernel
theorem dX1_emptyOthers_19 : decode cX1_emptyOthers 19 = .ok (.iinc 3 1, 3) := by decide +kernel
theorem dX1_emptyOthers_22 : decode cX1_emptyOthers 22 = .ok (.goto (-20), 3) := by decide +kernel
theorem dX1_emptyOthers_25 : decode cX1_emptyOthers 25 = .ok (.return_, 1) := by decide +kernel
theorem dX1_load_0 : decode cX1_load 0 = .ok (.iconst 0, 1) := by decide +kernel
theorem dX1_load_1 : decode cX1_load 1 = .ok (.istore 4, 2) := by decide +kernel
theorem dX1_load_3 : decode cX1_load 3 = .ok (.iload_n 2, 1) := by decide +kernel
theorem dX1_load_4 : decode cX1_load 4 = .ok (.iconst 2, 1) := by decide +kernel
theorem dX1_load_5 : decode cX1_load 5 = .ok (.irem, 1) := by decide +kernel
theorem dX1_load_6 : decode cX1_load 6 = .ok (.istore 5, 2) := by decide +kernel
theorem dX1_load_8 : decode cX1_load 8 = .ok (.iload 5, 2) := by decide +kernel
theorem dX1_load_10 : decode cX1_load 10 = .ok (.bipush 16, 2) := by decide +kernel
theorem dX1_load_12 : decode cX1_load 12 = .ok (.if_icmp .ge 28, 3) := by decide +kernel
theorem dX1_load_15 : decode cX1_load 15 = .ok (.aload_n 0, 1) := by decide +kernel
theorem dX1_load_16 : decode cX1_load 16 = .ok (.iload_n 1, 1) := by decide +kernel
theorem dX1_load_17 : decode cX1_load 17 = .ok (.iload 5, 2) := by decide +kernel
theorem dX1_load_19 : decode cX1_load 19 = .ok (.invokevirtual 41, 3) := by decide +kernel
theorem dX1_load_22 : decode cX1_load 22 = .ok (.ifCond .le 12, 3) := by decide +kernel
theorem dX1_load_25 : decode cX1_load 25 = .ok (.aload_n 0, 1) := by decide +kernel
theorem dX1_load_26 : decode cX1_load 26 = .ok (.iload_n 1, 1) := by decide +kernel
theorem dX1_load_27 : decode cX1_load 27 = .ok (.iload 5, 2) := by decide +kernel
theorem dX1_load_29 : decode cX1_load 29 = .ok (.invokevirtual 56, 3) := by decide +kernel
theorem dX1_load_32 : decode cX1_load 32 = .ok (.istore 4, 2) := by decide +kernel
theorem dX1_load_34 : decode cX1_load 34 = .ok (.iinc 5 2, 3) := by decide +kernel
theorem dX1_load_37 : decode cX1_load 37 = .ok (.goto (-29), 3) := by decide +kernel
theorem dX1_load_40 : decode cX1_load 40 = .ok (.aload_n 0, 1) := by decide +kernel
theorem dX1_load_41 : decode cX1_load 41 = .ok (.iload_n 3, 1) := by decide +kernel
theorem dX1_load_42 : decode cX1_load 42 = .ok (.iload_n 1, 1) := by decide +kernel
theorem dX1_load_43 : decode cX1_load 43 = .ok (.iload_n 2, 1) := by decide +kernel
theorem dX1_load_44 : decode cX1_load 44 = .ok (.invokevirtual 45, 3) := by decide +kernel
theorem dX1_load_47 : decode cX1_load 47 = .ok (.aload_n 0, 1) := by decide +kernel
theorem dX1_load_48 : decode cX1_load 48 = .ok (.iload_n 2, 1) := by decide +kernel
theorem dX1_load_49 : decode cX1_load 49 = .ok (.invokevirtual 60, 3) := by decide +kernel
theorem dX1_load_52 : decode cX1_load 52 = .ok (.istore 5, 2) := by decide +kernel
theorem dX1_load_54 : decode cX1_load 54 = .ok (.iconst 0, 1) := by decide +kernel
theorem dX1_load_55 : decode cX1_load 55 = .ok (.istore 6, 2) := by decide +kernel
theorem dX1_load_57 : decode cX1_load 57 = .ok (.iload 6, 2) := by decide +kernel
theorem dX1_load_59 : decode cX1_load 59 = .ok (.iconst 2, 1) := by decide +kernel
theorem dX1_load_60 : decode cX1_load 60 = .ok (.if_icmp .ge 57, 3) := by decide +kernel
theorem dX1_load_63 : decode cX1_load 63 = .ok (.iconst 2, 1) := by decide +kernel
theorem dX1_load_64 : decode cX1_load 64 = .ok (.iload_n 2, 1) := by decide +kernel
theorem dX1_load_65 : decode cX1_load 65 = .ok (.imul, 1) := by decide +kernel
theorem dX1_load_66 : decode cX1_load 66 = .ok (.iload 6, 2) := by decide +kernel
theorem dX1_load_68 : decode cX1_load 68 = .ok (.iadd, 1) := by decide +kernel
theorem dX1_load_69 : decode cX1_load 69 = .ok (.istore 7, 2) := by decide +kernel
theorem dX1_load_71 : decode cX1_load 71 = .ok (.aload_n 0, 1) := by decide +kernel
theorem dX1_load_72 : decode cX1_load 72 = .ok (.getfield 13, 3) := by decide +kernel
theorem dX1_load_75 : decode cX1_load 75 = .ok (.bipush 32, 2) := by decide +kernel
theorem dX1_load_77 : decode cX1_load 77 = .ok (.iload_n 1, 1) := by decide +kernel
theorem dX1_load_78 : decode cX1_load 78 = .ok (.imul, 1) := by decide +kernel
theorem dX1_load_79 : decode cX1_load 79 = .ok (.iload 7, 2) := by decide +kernel
theorem dX1_load_81 : decode cX1_load 81 = .ok (.iadd, 1) := by decide +kernel
theorem dX1_load_82 : decode cX1_load 82 = .ok (.iload 5, 2) := by decide +kernel
theorem dX1_load_84 : decode cX1_load 84 = .ok (.ifCond .lt 19, 3) := by decide +kernel
theorem dX1_load_87 : decode cX1_load 87 = .ok (.aload_n 0, 1) := by decide +kernel
theorem dX1_load_88 : decode cX1_load 88 = .ok (.getfield 13, 3) := by decide +kernel
theorem dX1_load_91 : decode cX1_load 91 = .ok (.bipush 32, 2) := by decide +kernel
theorem dX1_load_93 : decode cX1_load 93 = .ok (.iload 5, 2) := by decide +kernel
theorem dX1_load_95 : decode cX1_load 95 = .ok (.imul, 1) := by decide +kernel
theorem dX1_load_96 : decode cX1_load 96 = .ok (.iload 7, 2) := by decide +kernel
theorem dX1_load_98 : decode cX1_load 98 = .ok (.iadd, 1) := by decide +kernel
theorem dX1_load_99 : decode cX1_load 99 = .ok (.iaload, 1) := by decide +kernel
theorem dX1_load_100 : decode cX1_load 100 = .ok (.goto 10, 3) := by decide +kernel
theorem dX1_load_103 : decode cX1_load 103 = .ok (.aload_n 0, 1) := by decide +kernel
theorem dX1_load_104 : decode cX1_load 104 = .ok (.getfield 16, 3) := by decide +kernel
theorem dX1_load_107 : decode cX1_load 107 = .ok (.iload 7, 2) := by decide +kernel
theorem dX1_load_109 : decode cX1_load 109 = .ok (.iaload, 1) := by decide +kernel
theorem dX1_load_110 : decode cX1_load 110 = .ok (.iastore, 1) := by decide +kernel
theorem dX1_load_111 : decode cX1_load 111 = .ok (.iinc 6 1, 3) := by decide +kernel
theorem dX1_load_114 : decode cX1_load 114 = .ok (.goto (-57), 3) := by decide +kernel
theorem dX1_load_117 : decode cX1_load 117 = .ok (.iload_n 3, 1) := by decide +kernel
theorem dX1_load_118 : decode cX1_load 118 = .ok (.iconst 1, 1) := by decide +kernel
theorem dX1_load_119 : decode cX1_load 119 = .ok (.if_icmp .ne 17, 3) := by decide +kernel
theorem dX1_load_122 : decode cX1_load 122 = .ok (.aload_n 0, 1) := by decide +kernel
theorem dX1_load_123 : decode cX1_load 123 = .ok (.iload_n 1, 1) := by decide +kernel
theorem dX1_load_124 : decode cX1_load 124 = .ok (.iload_n 2, 1) := by decide +kernel
theorem dX1_load_125 : decode cX1_load 125 = .ok (.invokevirtual 64, 3) := by decide +kernel
theorem dX1_load_128 : decode cX1_load 128 = .ok (.aload_n 0, 1) := by decide +kernel
theorem dX1_load_129 : decode cX1_load 129 = .ok (.iload_n 1, 1) := by decide +kernel
theorem dX1_load_130 : decode cX1_load 130 = .ok (.iload_n 2, 1) := by decide +kernel
theorem dX1_load_131 : decode cX1_load 131 = .ok (.iconst 4, 1) := by decide +kernel
theorem dX1_load_132 : decode cX1_load 132 = .ok (.invokevirtual 53, 3) := by decide +kernel
theorem dX1_load_135 : decode cX1_load 135 = .ok (.return_, 1) := by decide +kernel
theorem dX1_load_136 : decode cX1_load 136 = .ok (.aload_n 0, 1) := by decide +kernel
theorem dX1_load_137 : decode cX1_load 137 = .ok (.iload_n 1, 1) := by decide +kernel
theorem dX1_load_138 : decode cX1_load 138 = .ok (.iload_n 2, 1) := by decide +kernel
theorem dX1_load_139 : decode cX1_load 139 = .ok (.invokevirtual 67, 3) := by decide +kernel
theorem dX1_load_142 : decode cX1_load 142 = .ok (.ifCond .ne 7, 3) := by decide +kernel
theorem dX1_load_145 : decode cX1_load 145 = .ok (.iconst 1, 1) := by decide +kernel
theorem dX1_load_146 : decode cX1_load 146 = .ok (.goto 4, 3) := by decide +kernel
theorem dX1_load_149 : decode cX1_load 149 = .ok (.iconst 0, 1) := by decide +kernel
theorem dX1_load_150 : decode cX1_load 150 = .ok (.istore 6, 2) := by decide +kernel
theorem dX1_load_152 : decode cX1_load 152 = .ok (.aload_n 0, 1) := by decide +kernel
theorem dX1_load_153 : decode cX1_load 153 = .ok (.getfield 25, 3) := by decide +kernel
theorem dX1_load_156 : decode cX1_load 156 = .ok (.iconst 2, 1) := by decide +kernel
theorem dX1_load_157 : decode cX1_load 157 = .ok (.if_icmp .ge 15, 3) := by decide +kernel
theorem dX1_load_160 : decode cX1_load 160 = .ok (.iload 5, 2) := by decide +kernel
theorem dX1_load_162 : decode cX1_load 162 = .ok (.ifCond .lt 10, 3) := by decide +kernel
theorem dX1_load_165 : decode cX1_load 165 = .ok (.aload_n 0, 1) := by decide +kernel
theorem dX1_load_166 : decode cX1_load 166 = .ok (.iload 5, 2) := by decide +kernel
theorem dX1_load_168 : decode cX1_load 168 = .ok (.iload_n 2, 1) := by decide +kernel
theorem dX1_load_169 : decode cX1_load 169 = .ok (.invokevirtual 49, 3) := by decide +kernel
theorem dX1_load_172 : decode cX1_load 172 = .ok (.iconst 0, 1) := by decide +kernel
theorem dX1_load_173 : decode cX1_load 173 = .ok (.istore 7, 2) := by decide +kernel
theorem dX1_load_175 : decode cX1_load 175 = .ok (.iload 7, 2) := by decide +kernel
theorem dX1_load_177 : decode cX1_load 177 = .ok (.iconst 4, 1) := by decide +kernel
theorem dX1_load_178 : decode cX1_load 178 = .ok (.if_icmp .ge 82, 3) := by decide +kernel
theorem dX1_load_181 : decode cX1_load 181 = .ok (.aload_n 0, 1) := by decide +kernel
theorem dX1_load_182 : decode cX1_load 182 = .ok (.iload 7, 2) := by decide +kernel
theorem dX1_load_184 : decode cX1_load 184 = .ok (.iload_n 2, 1) := by decide +kernel
theorem dX1_load_185 : decode cX1_load 185 = .ok (.invokevirtual 41, 3) := by decide +kernel
theorem dX1_load_188 : decode cX1_load 188 = .ok (.istore 8, 2) := by decide +kernel
theorem dX1_load_190 : decode cX1_load 190 = .ok (.iload 7, 2) := by decide +kernel
theorem dX1_load_192 : decode cX1_load 192 = .ok (.iload_n 1, 1) := by decide +kernel
theorem dX1_load_193 : decode cX1_load 193 = .ok (.if_icmp .eq 61, 3) := by decide +kernel
theorem dX1_load_196 : decode cX1_load 196 = .ok (.iload 8, 2) := by decide +kernel
theorem dX1_load_198 : decode cX1_load 198 = .ok (.ifCond .ne 6, 3) := by decide +kernel
theorem dX1_load_201 : decode cX1_load 201 = .ok (.goto 53, 3) := by decide +kernel
theorem dX1_load_204 : decode cX1_load 204 = .ok (.aload_n 0, 1) := by decide +kernel
theorem dX1_load_205 : decode cX1_load 205 = .ok (.getfield 25, 3) := by decide +kernel
theorem dX1_load_208 : decode cX1_load 208 = .ok (.iconst 2, 1) := by decide +kernel
theorem dX1_load_209 : decode cX1_load 209 = .ok (.if_icmp .ge 14, 3) := by decide +kernel
theorem dX1_load_212 : decode cX1_load 212 = .ok (.aload_n 0, 1) := by decide +kernel
theorem dX1_load_213 : decode cX1_load 213 = .ok (.iload 7, 2) := by decide +kernel
theorem dX1_load_215 : decode cX1_load 215 = .ok (.iload_n 2, 1) := by decide +kernel
theorem dX1_load_216 : decode cX1_load 216 = .ok (.iconst 1, 1) := by decide +kernel
theorem dX1_load_217 : decode cX1_load 217 = .ok (.invokevirtual 53, 3) := by decide +kernel
theorem dX1_load_220 : decode cX1_load 220 = .ok (.goto 34, 3) := by decide +kernel
theorem dX1_load_223 : decode cX1_load 223 = .ok (.iload 8, 2) := by decide +kernel
theorem dX1_load_225 : decode cX1_load 225 = .ok (.iconst 4, 1) := by decide +kernel
theorem dX1_load_226 : decode cX1_load 226 = .ok (.if_icmp .ne 14, 3) := by decide +kernel
theorem dX1_load_229 : decode cX1_load 229 = .ok (.aload_n 0, 1) := by decide +kernel
theorem dX1_load_230 : decode cX1_load 230 = .ok (.iload 7, 2) := by decide +kernel
theorem dX1_load_232 : decode cX1_load 232 = .ok (.iload_n 2, 1) := by decide +kernel
theorem dX1_load_233 : decode cX1_load 233 = .ok (.iconst 3, 1) := by decide +kernel
theorem dX1_load_234 : decode cX1_load 234 = .ok (.invokevirtual 53, 3) := by decide +kernel
theorem dX1_load_237 : decode cX1_load 237 = .ok (.goto 17, 3) := by decide +kernel
theorem dX1_load_240 : decode cX1_load 240 = .ok (.iload 8, 2) := by decide +kernel
theorem dX1_load_242 : decode cX1_load 242 = .ok (.iconst 2, 1) := by decide +kernel
theorem dX1_load_243 : decode cX1_load 243 = .ok (.if_icmp .ne 11, 3) := by decide +kernel
theorem dX1_load_246 : decode cX1_load 246 = .ok (.aload_n 0, 1) := by decide +kernel
theorem dX1_load_247 : decode cX1_load 247 = .ok (.iload 7, 2) := by decide +kernel
theorem dX1_load_249 : decode cX1_load 249 = .ok (.iload_n 2, 1) := by decide +kernel
theorem dX1_load_250 : decode cX1_load 250 = .ok (.iconst 1, 1) := by decide +kernel
theorem dX1_load_251 : decode cX1_load 251 = .ok (.invokevirtual 53, 3) := by decide +kernel
theorem dX1_load_254 : decode cX1_load 254 = .ok (.iinc 7 1, 3) := by decide +kernel
theorem dX1_load_257 : decode cX1_load 257 = .ok (.goto (-82), 3) := by decide +kernel
theorem dX1_load_260 : decode cX1_load 260 = .ok (.aload_n 0, 1) := by decide +kernel
theorem dX1_load_261 : decode cX1_load 261 = .ok (.iload_n 1, 1) := by decide +kernel
theorem dX1_load_262 : decode cX1_load 262 = .ok (.iload_n 2, 1) := by decide +kernel
theorem dX1_load_263 : decode cX1_load 263 = .ok (.aload_n 0, 1) := by decide +kernel
theorem dX1_load_264 : decode cX1_load 264 = .ok (.getfield 25, 3) := by decide +kernel
theorem dX1_load_267 : decode cX1_load 267 = .ok (.ifCond .le 12, 3) := by decide +kernel
theorem dX1_load_270 : decode cX1_load 270 = .ok (.iload 6, 2) := by decide +kernel
theorem dX1_load_272 : decode cX1_load 272 = .ok (.ifCond .eq 7, 3) := by decide +kernel
theorem dX1_load_275 : decode cX1_load 275 = .ok (.iconst 2, 1) := by decide +kernel
theorem dX1_load_276 : decode cX1_load 276 = .ok (.goto 4, 3) := by decide +kernel
theorem dX1_load_279 : decode cX1_load 279 = .ok (.iconst 1, 1) := by decide +kernel
theorem dX1_load_280 : decode cX1_load 280 = .ok (.invokevirtual 53, 3) := by decide +kernel
theorem dX1_load_283 : decode cX1_load 283 = .ok (.return_, 1) := by decide +kernel
theorem dX1_hit_0 : decode cX1_hit 0 = .ok (.aload_n 0, 1) := by decide +kernel
theorem dX1_hit_1 : decode cX1_hit 1 = .ok (.iload_n 1, 1) := by decide +kernel
theorem dX1_hit_2 : decode cX1_hit 2 = .ok (.iload_n 2, 1) := by decide +kernel
theorem dX1_hit_3 : decode cX1_hit 3 = .ok (.invokevirtual 41, 3) := by decide +kernel
theorem dX1_hit_6 : decode cX1_hit 6 = .ok (.ifCond .le 7, 3) := by decide +kernel
theorem dX1_hit_9 : decode cX1_hit 9 = .ok (.iconst 1, 1) := by decide +kernel
theorem dX1_hit_10 : decode cX1_hit 10 = .ok (.goto 4, 3) := by decide +kernel
theorem dX1_hit_13 : decode cX1_hit 13 = .ok (.iconst 0, 1) := by decide +kernel
theorem dX1_hit_14 : decode cX1_hit 14 = .ok (.istore_n 3, 1) := by decide +kernel
theorem dX1_hit_15 : decode cX1_hit 15 = .ok (.iload_n 3, 1) := by decide +kernel
theorem dX1_hit_16 : decode cX1_hit 16 = .ok (.ifCond .eq 16, 3) := by decide +kernel
theorem dX1_hit_19 : decode cX1_hit 19 = .ok (.aload_n 0, 1) := by decide +kernel
theorem dX1_hit_20 : decode cX1_hit 20 = .ok (.dup, 1) := by decide +kernel
theorem dX1_hit_21 : decode cX1_hit 21 = .ok (.getfield 35, 3) := by decide +kernel
theorem dX1_hit_24 : decode cX1_hit 24 = .ok (.iconst 1, 1) := by decide +kernel
theorem dX1_hit_25 : decode cX1_hit 25 = .ok (.iadd, 1) := by decide +kernel
theorem dX1_hit_26 : decode cX1_hit 26 = .ok (.putfield 35, 3) := by decide +kernel
theorem dX1_hit_29 : decode cX1_hit 29 = .ok (.goto 13, 3) := by decide +kernel
theorem dX1_hit_32 : decode cX1_hit 32 = .ok (.aload_n 0, 1) := by decide +kernel
theorem dX1_hit_33 : decode cX1_hit 33 = .ok (.dup, 1) := by decide +kernel
theorem dX1_hit_34 : decode cX1_hit 34 = .ok (.getfield 38, 3) := by decide +kernel
theorem dX1_hit_37 : decode cX1_hit 37 = .ok (.iconst 1, 1) := by decide +kernel
theorem dX1_hit_38 : decode cX1_hit 38 = .ok (.iadd, 1) := by decide +kernel
theorem dX1_hit_39 : decode cX1_hit 39 = .ok (.putfield 38, 3) := by decide +kernel
theorem dX1_hit_42 : decode cX1_hit 42 = .ok (.iload_n 3, 1) := by decide +kernel
theorem dX1_hit_43 : decode cX1_hit 43 = .ok (.ireturn, 1) := by decide +kernel
theorem dX1_read_0 : decode cX1_read 0 = .ok (.aload_n 0, 1) := by decide +kernel
theorem dX1_read_1 : decode cX1_read 1 = .ok (.iload_n 1, 1) := by decide +kernel
theorem dX1_read_2 : decode cX1_read 2 = .ok (.iconst 3, 1) := by decide +kernel
theorem dX1_read_3 : decode cX1_read 3 = .ok (.invokestatic 70, 3) := by decide +kernel
theorem dX1_read_6 : decode cX1_read 6 = .ok (.ifCond .eq 16, 3) := by decide +kernel
theorem dX1_read_9 : decode cX1_read 9 = .ok (.iload_n 2, 1) := by decide +kernel
theorem dX1_read_10 : decode cX1_read 10 = .ok (.bipush 31, 2) := by decide +kernel
theorem dX1_read_12 : decode cX1_read 12 = .ok (.invokestatic 70, 3) := by decide +kernel
theorem dX1_read_15 : decode cX1_read 15 = .ok (.ifCond .eq 7, 3) := by decide +kernel
theorem dX1_read_18 : decode cX1_read 18 = .ok (.iconst 0, 1) := by decide +kernel
theorem dX1_read_19 : decode cX1_read 19 = .ok (.goto 4, 3) := by decide +kernel
theorem dX1_read_22 : decode cX1_read 22 = .ok (.iconst 1, 1) := by decide +kernel
theorem dX1_read_23 : decode cX1_read 23 = .ok (.putfield 29, 3) := by decide +kernel
theorem dX1_read_26 : decode cX1_read 26 = .ok (.aload_n 0, 1) := by decide +kernel
theorem dX1_read_27 : decode cX1_read 27 = .ok (.getfield 29, 3) := by decide +kernel
theorem dX1_read_30 : decode cX1_read 30 = .ok (.ifCond .le 5, 3) := by decide +kernel
theorem dX1_read_33 : decode cX1_read 33 = .ok (.iconst 0, 1) := by decide +kernel
theorem dX1_read_34 : decode cX1_read 34 = .ok (.ireturn, 1) := by decide +kernel
theorem dX1_read_35 : decode cX1_read 35 = .ok (.iload_n 2, 1) := by decide +kernel
theorem dX1_read_36 : decode cX1_read 36 = .ok (.iconst 2, 1) := by decide +kernel
theorem dX1_read_37 : decode cX1_read 37 = .ok (.idiv, 1) := by decide +kernel
theorem dX1_read_38 : decode cX1_read 38 = .ok (.istore_n 3, 1) := by decide +kernel
theorem dX1_read_39 : decode cX1_read 39 = .ok (.aload_n 0, 1) := by decide +kernel
theorem dX1_read_40 : decode cX1_read 40 = .ok (.iload_n 1, 1) := by decide +kernel
theorem dX1_read_41 : decode cX1_read 41 = .ok (.iload_n 3, 1) := by decide +kernel
theorem dX1_read_42 : decode cX1_read 42 = .ok (.invokevirtual 73, 3) := by decide +kernel
theorem dX1_read_45 : decode cX1_read 45 = .ok (.ifCond .ne 10, 3) := by decide +kernel
theorem dX1_read_48 : decode cX1_read 48 = .ok (.aload_n 0, 1) := by decide +kernel
theorem dX1_read_49 : decode cX1_read 49 = .ok (.iload_n 1, 1) := by decide +kernel
theorem dX1_read_50 : decode cX1_read 50 = .ok (.iload_n 3, 1) := by decide +kernel
theorem dX1_read_51 : decode cX1_read 51 = .ok (.iconst 0, 1) := by decide +kernel
theorem dX1_read_52 : decode cX1_read 52 = .ok (.invokevirtual 76, 3) := by decide +kernel
theorem dX1_read_55 : decode cX1_read 55 = .ok (.aload_n 0, 1) := by decide +kernel
theorem dX1_read_56 : decode cX1_read 56 = .ok (.getfield 13, 3) := by decide +kernel
theorem dX1_read_59 : decode cX1_read 59 = .ok (.bipush 32, 2) := by decide +kernel
theorem dX1_read_61 : decode cX1_read 61 = .ok (.iload_n 1, 1) := by decide +kernel
theorem dX1_read_62 : decode cX1_read 62 = .ok (.imul, 1) := by decide +kernel
theorem dX1_read_63 : decode cX1_read 63 = .ok (.iload_n 2, 1) := by decide +kernel
theorem dX1_read_64 : decode cX1_read 64 = .ok (.iadd, 1) := by decide +kernel
theorem dX1_read_65 : decode cX1_read 65 = .ok (.iaload, 1) := by decide +kernel
theorem dX1_read_66 : decode cX1_read 66 = .ok (.ireturn, 1) := by decide +kernel
theorem dX1_write_0 : decode cX1_write 0 = .ok (.aload_n 0, 1) := by decide +kernel
theorem dX1_write_1 : decode cX1_write 1 = .ok (.iload_n 1, 1) := by decide +kernel
theorem dX1_write_2 : decode cX1_write 2 = .ok (.iconst 3, 1) := by decide +kernel
theorem dX1_write_3 : decode cX1_write 3 = .ok (.invokestatic 70, 3) := by decide +kernel
theorem dX1_write_6 : decode cX1_write 6 = .ok (.ifCond .eq 16, 3) := by decide +kernel
theorem dX1_write_9 : decode cX1_write 9 = .ok (.iload_n 2, 1) := by decide +kernel
theorem dX1_write_10 : decode cX1_write 10 = .ok (.bipush 31, 2) := by decide +kernel
theorem dX1_write_12 : decode cX1_write 12 = .ok (.invokestatic 70, 3) := by decide +kernel
theorem dX1_write_15 : decode cX1_write 15 = .ok (.ifCond .eq 7, 3) := by decide +kernel
theorem dX1_write_18 : decode cX1_write 18 = .ok (.iconst 0, 1) := by decide +kernel
theorem dX1_write_19 : decode cX1_write 19 = .ok (.goto 4, 3) := by decide +kernel
theorem dX1_write_22 : decode cX1_write 22 = .ok (.iconst 1, 1) := by decide +kernel
theorem dX1_write_23 : decode cX1_write 23 = .ok (.putfield 29, 3) := by decide +kernel
theorem dX1_write_26 : decode cX1_write 26 = .ok (.aload_n 0, 1) := by decide +kernel
theorem dX1_write_27 : decode cX1_write 27 = .ok (.getfield 29, 3) := by decide +kernel
theorem dX1_write_30 : decode cX1_write 30 = .ok (.ifCond .le 5, 3) := by decide +kernel
theorem dX1_write_33 : decode cX1_write 33 = .ok (.iconst 0, 1) := by decide +kernel
theorem dX1_write_34 : decode cX1_write 34 = .ok (.ireturn, 1) := by decide +kernel
theorem dX1_write_35 : decode cX1_write 35 = .ok (.iload_n 2, 1) := by decide +kernel
theorem dX1_write_36 : decode cX1_write 36 = .ok (.iconst 2, 1) := by decide +kernel
theorem dX1_write_37 : decode cX1_write 37 = .ok (.idiv, 1) := by decide +kernel
theorem dX1_write_38 : decode cX1_write 38 = .ok (.istore 4, 2) := by decide +kernel
theorem dX1_write_40 : decode cX1_write 40 = .ok (.aload_n 0, 1) := by decide +kernel
theorem dX1_write_41 : decode cX1_write 41 = .ok (.getfield 32, 3) := by decide +kernel
theorem dX1_write_44 : decode cX1_write 44 = .ok (.istore 5, 2) := by decide +kernel
theorem dX1_write_46 : decode cX1_write 46 = .ok (.aload_n 0, 1) := by decide +kernel
theorem dX1_write_47 : decode cX1_write 47 = .ok (.iload_n 1, 1) := by decide +kernel
theorem dX1_write_48 : decode cX1_write 48 = .ok (.iload 4, 2) := by decide +kernel
theorem dX1_write_50 : decode cX1_write 50 = .ok (.invokevirtual 73, 3) := by decide +kernel
theorem dX1_write_53 : decode cX1_write 53 = .ok (.ifCond .ne 22, 3) := by decide +kernel
theorem dX1_write_56 : decode cX1_write 56 = .ok (.aload_n 0, 1) := by decide +kernel
theorem dX1_write_57 : decode cX1_write 57 = .ok (.iload_n 1, 1) := by decide +kernel
theorem dX1_write_58 : decode cX1_write 58 = .ok (.iload 4, 2) := by decide +kernel
theorem dX1_write_60 : decode cX1_write 60 = .ok (.aload_n 0, 1) := by decide +kernel
theorem dX1_write_61 : decode cX1_write 61 = .ok (.invokevirtual 79, 3) := by decide +kernel
theorem dX1_write_64 : decode cX1_write 64 = .ok (.ifCond .eq 7, 3) := by decide +kernel
theorem dX1_write_67 : decode cX1_write 67 = .ok (.iconst 1, 1) := by decide +kernel
theorem dX1_write_68 : decode cX1_write 68 = .ok (.goto 4, 3) := by decide +kernel
theorem dX1_write_71 : decode cX1_write 71 = .ok (.iconst 0, 1) := by decide +kernel
theorem dX1_write_72 : decode cX1_write 72 = .ok (.invokevirtual 76, 3) := by decide +kernel
theorem dX1_write_75 : decode cX1_write 75 = .ok (.aload_n 0, 1) := by decide +kernel
theorem dX1_write_76 : decode cX1_write 76 = .ok (.iload_n 1, 1) := by decide +kernel
theorem dX1_write_77 : decode cX1_write 77 = .ok (.iload 4, 2) := by decide +kernel
theorem dX1_write_79 : decode cX1_write 79 = .ok (.invokevirtual 41, 3) := by decide +kernel
theorem dX1_write_82 : decode cX1_write 82 = .ok (.istore 6, 2) := by decide +kernel
theorem dX1_write_84 : decode cX1_write 84 = .ok (.iconst 4, 1) := by decide +kernel
theorem dX1_write_85 : decode cX1_write 85 = .ok (.istore 7, 2) := by decide +kernel
theorem dX1_write_87 : decode cX1_write 87 = .ok (.iload 6, 2) := by decide +kernel
theorem dX1_write_89 : decode cX1_write 89 = .ok (.iconst 1, 1) := by decide +kernel
theorem dX1_write_90 : decode cX1_write 90 = .ok (.if_icmp .eq 9, 3) := by decide +kernel
theorem dX1_write_93 : decode cX1_write 93 = .ok (.iload 6, 2) := by decide +kernel
theorem dX1_write_95 : decode cX1_write 95 = .ok (.iconst 3, 1) := by decide +kernel
theorem dX1_write_96 : decode cX1_write 96 = .ok (.if_icmp .ne 109, 3) := by decide +kernel
theorem dX1_write_99 : decode cX1_write 99 = .ok (.aload_n 0, 1) := by decide +kernel
theorem dX1_write_100 : decode cX1_write 100 = .ok (.aload_n 0, 1) := by decide +kernel
theorem dX1_write_101 : decode cX1_write 101 = .ok (.invokevirtual 79, 3) := by decide +kernel
theorem dX1_write_104 : decode cX1_write 104 = .ok (.ifCond .eq 7, 3) := by decide +kernel
theorem dX1_write_107 : decode cX1_write 107 = .ok (.iconst 2, 1) := by decide +kernel
theorem dX1_write_108 : decode cX1_write 108 = .ok (.goto 4, 3) := by decide +kernel
theorem dX1_write_111 : decode cX1_write 111 = .ok (.iconst 3, 1) := by decide +kernel
theorem dX1_write_112 : decode cX1_write 112 = .ok (.iload_n 1, 1) := by decide +kernel
theorem dX1_write_113 : decode cX1_write 113 = .ok (.iload 4, 2) := by decide +kernel
theorem dX1_write_115 : decode cX1_write 115 = .ok (.invokevirtual 45, 3) := by decide +kernel
theorem dX1_write_118 : decode cX1_write 118 = .ok (.aload_n 0, 1) := by decide +kernel
theorem dX1_write_119 : decode cX1_write 119 = .ok (.invokevirtual 79, 3) := by decide +kernel
theorem dX1_write_122 : decode cX1_write 122 = .ok (.ifCond .eq 13, 3) := by decide +kernel
theorem dX1_write_125 : decode cX1_write 125 = .ok (.aload_n 0, 1) := by decide +kernel
theorem dX1_write_126 : decode cX1_write 126 = .ok (.iload_n 1, 1) := by decide +kernel
theorem dX1_write_127 : decode cX1_write 127 = .ok (.iload 4, 2) := by decide +kernel
theorem dX1_write_129 : decode cX1_write 129 = .ok (.invokevirtual 64, 3) := by decide +kernel
theorem dX1_write_132 : decode cX1_write 132 = .ok (.goto 73, 3) := by decide +kernel
theorem dX1_write_135 : decode cX1_write 135 = .ok (.aload_n 0, 1) := by decide +kernel
theorem dX1_write_136 : decode cX1_write 136 = .ok (.iload_n 1, 1) := by decide +kernel
theorem dX1_write_137 : decode cX1_write 137 = .ok (.iload 4, 2) := by decide +kernel
theorem dX1_write_139 : decode cX1_write 139 = .ok (.invokevirtual 67, 3) := by decide +kernel
theorem dX1_write_142 : decode cX1_write 142 = .ok (.ifCond .le 6, 3) := by decide +kernel
theorem dX1_write_145 : decode cX1_write 145 = .ok (.iconst 3, 1) := by decide +kernel
theorem dX1_write_146 : decode cX1_write 146 = .ok (.istore 7, 2) := by decide +kernel
theorem dX1_write_148 : decode cX1_write 148 = .ok (.iconst 0, 1) := by decide +kernel
theorem dX1_write_149 : decode cX1_write 149 = .ok (.istore 8, 2) := by decide +kernel
theorem dX1_write_151 : decode cX1_write 151 = .ok (.iload 8, 2) := by decide +kernel
theorem dX1_write_153 : decode cX1_write 153 = .ok (.iconst 4, 1) := by decide +kernel
theorem dX1_write_154 : decode cX1_write 154 = .ok (.if_icmp .ge 51, 3) := by decide +kernel
theorem dX1_write_157 : decode cX1_write 157 = .ok (.iload 8, 2) := by decide +kernel
theorem dX1_write_159 : decode cX1_write 159 = .ok (.iload_n 1, 1) := by decide +kernel
theorem dX1_write_160 : decode cX1_write 160 = .ok (.if_icmp .eq 39, 3) := by decide +kernel
theorem dX1_write_163 : decode cX1_write 163 = .ok (.aload_n 0, 1) := by decide +kernel
theorem dX1_write_164 : decode cX1_write 164 = .ok (.iload 8, 2) := by decide +kernel
theorem dX1_write_166 : decode cX1_write 166 = .ok (.iload 4, 2) := by decide +kernel
theorem dX1_write_168 : decode cX1_write 168 = .ok (.invokevirtual 41, 3) := by decide +kernel
theorem dX1_write_171 : decode cX1_write 171 = .ok (.ifCond .ne 6, 3) := by decide +kernel
theorem dX1_write_174 : decode cX1_write 174 = .ok (.goto 25, 3) := by decide +kernel
theorem dX1_write_177 : decode cX1_write 177 = .ok (.aload_n 0, 1) := by decide +kernel
theorem dX1_write_178 : decode cX1_write 178 = .ok (.getfield 13, 3) := by decide +kernel
theorem dX1_write_181 : decode cX1_write 181 = .ok (.bipush 32, 2) := by decide +kernel
theorem dX1_write_183 : decode cX1_write 183 = .ok (.iload 8, 2) := by decide +kernel
theorem dX1_write_185 : decode cX1_write 185 = .ok (.imul, 1) := by decide +kernel
theorem dX1_write_186 : decode cX1_write 186 = .ok (.iload_n 2, 1) := by decide +kernel
theorem dX1_write_187 : decode cX1_write 187 = .ok (.iadd, 1) := by decide +kernel
theorem dX1_write_188 : decode cX1_write 188 = .ok (.iload_n 3, 1) := by decide +kernel
theorem dX1_write_189 : decode cX1_write 189 = .ok (.iastore, 1) := by decide +kernel
theorem dX1_write_190 : decode cX1_write 190 = .ok (.aload_n 0, 1) := by decide +kernel
theorem dX1_write_191 : decode cX1_write 191 = .ok (.iload 8, 2) := by decide +kernel
theorem dX1_write_193 : decode cX1_write 193 = .ok (.iload 4, 2) := by decide +kernel
theorem dX1_write_195 : decode cX1_write 195 = .ok (.iconst 1, 1) := by decide +kernel
theorem dX1_write_196 : decode cX1_write 196 = .ok (.invokevirtual 53, 3) := by decide +kernel
theorem dX1_write_199 : decode cX1_write 199 = .ok (.iinc 8 1, 3) := by decide +kernel
theorem dX1_write_202 : decode cX1_write 202 = .ok (.goto (-51), 3) := by decide +kernel
theorem dX1_write_205 : decode cX1_write 205 = .ok (.aload_n 0, 1) := by decide +kernel
theorem dX1_write_206 : decode cX1_write 206 = .ok (.iload_n 1, 1) := by decide +kernel
theorem dX1_write_207 : decode cX1_write 207 = .ok (.iload 4, 2) := by decide +kernel
theorem dX1_write_209 : decode cX1_write 209 = .ok (.iload 7, 2) := by decide +kernel
theorem dX1_write_211 : decode cX1_write 211 = .ok (.invokevirtual 53, 3) := by decide +kernel
theorem dX1_write_214 : decode cX1_write 214 = .ok (.aload_n 0, 1) := by decide +kernel
theorem dX1_write_215 : decode cX1_write 215 = .ok (.getfield 13, 3) := by decide +kernel
theorem dX1_write_218 : decode cX1_write 218 = .ok (.bipush 32, 2) := by decide +kernel
theorem dX1_write_220 : decode cX1_write 220 = .ok (.iload_n 1, 1) := by decide +kernel
theorem dX1_write_221 : decode cX1_write 221 = .ok (.imul, 1) := by decide +kernel
theorem dX1_write_222 : decode cX1_write 222 = .ok (.iload_n 2, 1) := by decide +kernel
theorem dX1_write_223 : decode cX1_write 223 = .ok (.iadd, 1) := by decide +kernel
theorem dX1_write_224 : decode cX1_write 224 = .ok (.iload_n 3, 1) := by decide +kernel
theorem dX1_write_225 : decode cX1_write 225 = .ok (.iastore, 1) := by decide +kernel
theorem dX1_write_226 : decode cX1_write 226 = .ok (.aload_n 0, 1) := by decide +kernel
theorem dX1_write_227 : decode cX1_write 227 = .ok (.getfield 32, 3) := by decide +kernel
theorem dX1_write_230 : decode cX1_write 230 = .ok (.iload 5, 2) := by decide +kernel
theorem dX1_write_232 : decode cX1_write 232 = .ok (.isub, 1) := by decide +kernel
theorem dX1_write_233 : decode cX1_write 233 = .ok (.ireturn, 1) := by decide +kernel
theorem dX1_evict_0 : decode cX1_evict 0 = .ok (.aload_n 0, 1) := by decide +kernel
theorem dX1_evict_1 : decode cX1_evict 1 = .ok (.iload_n 1, 1) := by decide +kernel
theorem dX1_evict_2 : decode cX1_evict 2 = .ok (.iconst 3, 1) := by decide +kernel
theorem dX1_evict_3 : decode cX1_evict 3 = .ok (.invokestatic 70, 3) := by decide +kernel
theorem dX1_evict_6 : decode cX1_evict 6 = .ok (.ifCond .eq 12, 3) := by decide +kernel
theorem dX1_evict_9 : decode cX1_evict 9 = .ok (.iload_n 2, 1) := by decide +kernel
theorem dX1_evict_10 : decode cX1_evict 10 = .ok (.bipush 15, 2) := by decide +kernel
theorem dX1_evict_12 : decode cX1_evict 12 = .ok (.invokestatic 70, 3) := by decide +kernel
theorem dX1_evict_15 : decode cX1_evict 15 = .ok (.ifCond .ne 7, 3) := by decide +kernel
theorem dX1_evict_18 : decode cX1_evict 18 = .ok (.iconst 1, 1) := by decide +kernel
theorem dX1_evict_19 : decode cX1_evict 19 = .ok (.goto 17, 3) := by decide +kernel
theorem dX1_evict_22 : decode cX1_evict 22 = .ok (.aload_n 0, 1) := by decide +kernel
theorem dX1_evict_23 : decode cX1_evict 23 = .ok (.iload_n 1, 1) := by decide +kernel
theorem dX1_evict_24 : decode cX1_evict 24 = .ok (.iload_n 2, 1) := by decide +kernel
theorem dX1_evict_25 : decode cX1_evict 25 = .ok (.invokevirtual 41, 3) := by decide +kernel
theorem dX1_evict_28 : decode cX1_evict 28 = .ok (.ifCond .ne 7, 3) := by decide +kernel
theorem dX1_evict_31 : decode cX1_evict 31 = .ok (.iconst 2, 1) := by decide +kernel
theorem dX1_evict_32 : decode cX1_evict 32 = .ok (.goto 4, 3) := by decide +kernel
theorem dX1_evict_35 : decode cX1_evict 35 = .ok (.iconst 0, 1) := by decide +kernel
theorem dX1_evict_36 : decode cX1_evict 36 = .ok (.putfield 29, 3) := by decide +kernel
theorem dX1_evict_39 : decode cX1_evict 39 = .ok (.aload_n 0, 1) := by decide +kernel
theorem dX1_evict_40 : decode cX1_evict 40 = .ok (.getfield 29, 3) := by decide +kernel
theorem dX1_evict_43 : decode cX1_evict 43 = .ok (.ifCond .ne 16, 3) := by decide +kernel
theorem dX1_evict_46 : decode cX1_evict 46 = .ok (.aload_n 0, 1) := by decide +kernel
theorem dX1_evict_47 : decode cX1_evict 47 = .ok (.iload_n 1, 1) := by decide +kernel
theorem dX1_evict_48 : decode cX1_evict 48 = .ok (.iload_n 2, 1) := by decide +kernel
theorem dX1_evict_49 : decode cX1_evict 49 = .ok (.invokevirtual 56, 3) := by decide +kernel
theorem dX1_evict_52 : decode cX1_evict 52 = .ok (.ifCond .eq 7, 3) := by decide +kernel
theorem dX1_evict_55 : decode cX1_evict 55 = .ok (.iconst 1, 1) := by decide +kernel
theorem dX1_evict_56 : decode cX1_evict 56 = .ok (.goto 4, 3) := by decide +kernel
theorem dX1_evict_59 : decode cX1_evict 59 = .ok (.iconst 0, 1) := by decide +kernel
theorem dX1_evict_60 : decode cX1_evict 60 = .ok (.ireturn, 1) := by decide +kernel
theorem dX1_flush_0 : decode cX1_flush 0 = .ok (.aload_n 0, 1) := by decide +kernel
theorem dX1_flush_1 : decode cX1_flush 1 = .ok (.iconst 0, 1) := by decide +kernel
theorem dX1_flush_2 : decode cX1_flush 2 = .ok (.putfield 29, 3) := by decide +kernel
theorem dX1_flush_5 : decode cX1_flush 5 = .ok (.iconst 0, 1) := by decide +kernel
theorem dX1_flush_6 : decode cX1_flush 6 = .ok (.istore_n 1, 1) := by decide +kernel
theorem dX1_flush_7 : decode cX1_flush 7 = .ok (.iconst 0, 1) := by decide +kernel
theorem dX1_flush_8 : decode cX1_flush 8 = .ok (.istore_n 2, 1) := by decide +kernel
theorem dX1_flush_9 : decode cX1_flush 9 = .ok (.iload_n 2, 1) := by decide +kernel
theorem dX1_flush_10 : decode cX1_flush 10 = .ok (.iconst 4, 1) := by decide +kernel
theorem dX1_flush_11 : decode cX1_flush 11 = .ok (.if_icmp .ge 65, 3) := by decide +kernel
theorem dX1_flush_14 : decode cX1_flush 14 = .ok (.iconst 0, 1) := by decide +kernel
theorem dX1_flush_15 : decode cX1_flush 15 = .ok (.istore_n 3, 1) := by decide +kernel
theorem dX1_flush_16 : decode cX1_flush 16 = .ok (.iload_n 3, 1) := by decide +kernel
theorem dX1_flush_17 : decode cX1_flush 17 = .ok (.iconst 2, 1) := by decide +kernel
theorem dX1_flush_18 : decode cX1_flush 18 = .ok (.if_icmp .ge 52, 3) := by decide +kernel
theorem dX1_flush_21 : decode cX1_flush 21 = .ok (.iload_n 3, 1) := by decide +kernel
theorem dX1_flush_22 : decode cX1_flush 22 = .ok (.istore 4, 2) := by decide +kernel
theorem dX1_flush_24 : decode cX1_flush 24 = .ok (.iload 4, 2) := by decide +kernel
theorem dX1_flush_26 : decode cX1_flush 26 = .ok (.bipush 16, 2) := by decide +kernel
theorem dX1_flush_28 : decode cX1_flush 28 = .ok (.if_icmp .ge 36, 3) := by decide +kernel
theorem dX1_flush_31 : decode cX1_flush 31 = .ok (.aload_n 0, 1) := by decide +kernel
theorem dX1_flush_32 : decode cX1_flush 32 = .ok (.iload_n 2, 1) := by decide +kernel
theorem dX1_flush_33 : decode cX1_flush 33 = .ok (.iload 4, 2) := by decide +kernel
theorem dX1_flush_35 : decode cX1_flush 35 = .ok (.invokevirtual 41, 3) := by decide +kernel
theorem dX1_flush_38 : decode cX1_flush 38 = .ok (.ifCond .le 20, 3) := by decide +kernel
theorem dX1_flush_41 : decode cX1_flush 41 = .ok (.aload_n 0, 1) := by decide +kernel
theorem dX1_flush_42 : decode cX1_flush 42 = .ok (.iload_n 2, 1) := by decide +kernel
theorem dX1_flush_43 : decode cX1_flush 43 = .ok (.iload 4, 2) := by decide +kernel
theorem dX1_flush_45 : decode cX1_flush 45 = .ok (.invokevirtual 56, 3) := by decide +kernel
theorem dX1_flush_48 : decode cX1_flush 48 = .ok (.istore 5, 2) := by decide +kernel
theorem dX1_flush_50 : decode cX1_flush 50 = .ok (.iload 5, 2) := by decide +kernel
theorem dX1_flush_52 : decode cX1_flush 52 = .ok (.ifCond .eq 6, 3) := by decide +kernel
theorem dX1_flush_55 : decode cX1_flush 55 = .ok (.iinc 1 1, 3) := by decide +kernel
theorem dX1_flush_58 : decode cX1_flush 58 = .ok (.iinc 4 2, 3) := by decide +kernel
theorem dX1_flush_61 : decode cX1_flush 61 = .ok (.goto (-37), 3) := by decide +kernel
theorem dX1_flush_64 : decode cX1_flush 64 = .ok (.iinc 3 1, 3) := by decide +kernel
theorem dX1_flush_67 : decode cX1_flush 67 = .ok (.goto (-51), 3) := by decide +kernel
theorem dX1_flush_70 : decode cX1_flush 70 = .ok (.iinc 2 1, 3) := by decide +kernel
theorem dX1_flush_73 : decode cX1_flush 73 = .ok (.goto (-64), 3) := by decide +kernel
theorem dX1_flush_76 : decode cX1_flush 76 = .ok (.iload_n 1, 1) := by decide +kernel
theorem dX1_flush_77 : decode cX1_flush 77 = .ok (.ireturn, 1) := by decide +kernel
theorem dX1_state_0 : decode cX1_state 0 = .ok (.iload_n 1, 1) := by decide +kernel
theorem dX1_state_1 : decode cX1_state 1 = .ok (.iconst 3, 1) := by decide +kernel
theorem dX1_state_2 : decode cX1_state 2 = .ok (.invokestatic 70, 3) := by decide +kernel
theorem dX1_state_5 : decode cX1_state 5 = .ok (.ifCond .eq 21, 3) := by decide +kernel
theorem dX1_state_8 : decode cX1_state 8 = .ok (.iload_n 2, 1) := by decide +kernel
theorem dX1_state_9 : decode cX1_state 9 = .ok (.bipush 15, 2) := by decide +kernel
theorem dX1_state_11 : decode cX1_state 11 = .ok (.invokestatic 70, 3) := by decide +kernel
theorem dX1_state_14 : decode cX1_state 14 = .ok (.ifCond .eq 12, 3) := by decide +kernel
theorem dX1_state_17 : decode cX1_state 17 = .ok (.aload_n 0, 1) := by decide +kernel
theorem dX1_state_18 : decode cX1_state 18 = .ok (.iload_n 1, 1) := by decide +kernel
theorem dX1_state_19 : decode cX1_state 19 = .ok (.iload_n 2, 1) := by decide +kernel
theorem dX1_state_20 : decode cX1_state 20 = .ok (.invokevirtual 41, 3) := by decide +kernel
theorem dX1_state_23 : decode cX1_state 23 = .ok (.goto 4, 3) := by decide +kernel
theorem dX1_state_26 : decode cX1_state 26 = .ok (.iconst (-1), 1) := by decide +kernel
theorem dX1_state_27 : decode cX1_state 27 = .ok (.ireturn, 1) := by decide +kernel
theorem dX1_cached_0 : decode cX1_cached 0 = .ok (.iload_n 1, 1) := by decide +kernel
theorem dX1_cached_1 : decode cX1_cached 1 = .ok (.iconst 3, 1) := by decide +kernel
theorem dX1_cached_2 : decode cX1_cached 2 = .ok (.invokestatic 70, 3) := by decide +kernel
theorem dX1_cached_5 : decode cX1_cached 5 = .ok (.ifCond .eq 23, 3) := by decide +kernel
theorem dX1_cached_8 : decode cX1_cached 8 = .ok (.iload_n 2, 1) := by decide +kernel
theorem dX1_cached_9 : decode cX1_cached 9 = .ok (.bipush 31, 2) := by decide +kernel
theorem dX1_cached_11 : decode cX1_cached 11 = .ok (.invokestatic 70, 3) := by decide +kernel
theorem dX1_cached_14 : decode cX1_cached 14 = .ok (.ifCond .eq 14, 3) := by decide +kernel
theorem dX1_cached_17 : decode cX1_cached 17 = .ok (.aload_n 0, 1) := by decide +kernel
theorem dX1_cached_18 : decode cX1_cached 18 = .ok (.iload_n 1, 1) := by decide +kernel
theorem dX1_cached_19 : decode cX1_cached 19 = .ok (.iload_n 2, 1) := by decide +kernel
theorem dX1_cached_20 : decode cX1_cached 20 = .ok (.iconst 2, 1) := by decide +kernel
theorem dX1_cached_21 : decode cX1_cached 21 = .ok (.idiv, 1) := by decide +kernel
theorem dX1_cached_22 : decode cX1_cached 22 = .ok (.invokevirtual 41, 3) := by decide +kernel
theorem dX1_cached_25 : decode cX1_cached 25 = .ok (.ifCond .ne 5, 3) := by decide +kernel
theorem dX1_cached_28 : decode cX1_cached 28 = .ok (.iconst 0, 1) := by decide +kernel
theorem dX1_cached_29 : decode cX1_cached 29 = .ok (.ireturn, 1) := by decide +kernel
theorem dX1_cached_30 : decode cX1_cached 30 = .ok (.aload_n 0, 1) := by decide +kernel
theorem dX1_cached_31 : decode cX1_cached 31 = .ok (.getfield 13, 3) := by decide +kernel
theorem dX1_cached_34 : decode cX1_cached 34 = .ok (.bipush 32, 2) := by decide +kernel
theorem dX1_cached_36 : decode cX1_cached 36 = .ok (.iload_n 1, 1) := by decide +kernel
theorem dX1_cached_37 : decode cX1_cached 37 = .ok (.imul, 1) := by decide +kernel
theorem dX1_cached_38 : decode cX1_cached 38 = .ok (.iload_n 2, 1) := by decide +kernel
theorem dX1_cached_39 : decode cX1_cached 39 = .ok (.iadd, 1) := by decide +kernel
theorem dX1_cached_40 : decode cX1_cached 40 = .ok (.iaload, 1) := by decide +kernel
theorem dX1_cached_41 : decode cX1_cached 41 = .ok (.ireturn, 1) := by decide +kernel
theorem dX1_memory_0 : decode cX1_memory 0 = .ok (.iload_n 1, 1) := by decide +kernel
theorem dX1_memory_1 : decode cX1_memory 1 = .ok (.bipush 31, 2) := by decide +kernel
theorem dX1_memory_3 : decode cX1_memory 3 = .ok (.invokestatic 70, 3) := by decide +kernel
theorem dX1_memory_6 : decode cX1_memory 6 = .ok (.ifCond .eq 12, 3) := by decide +kernel
theorem dX1_memory_9 : decode cX1_memory 9 = .ok (.aload_n 0, 1) := by decide +kernel
theorem dX1_memory_10 : decode cX1_memory 10 = .ok (.getfield 16, 3) := by decide +kernel
theorem dX1_memory_13 : decode cX1_memory 13 = .ok (.iload_n 1, 1) := by decide +kernel
theorem dX1_memory_14 : decode cX1_memory 14 = .ok (.iaload, 1) := by decide +kernel
theorem dX1_memory_15 : decode cX1_memory 15 = .ok (.goto 4, 3) := by decide +kernel
theorem dX1_memory_18 : decode cX1_memory 18 = .ok (.iconst 0, 1) := by decide +kernel
theorem dX1_memory_19 : decode cX1_memory 19 = .ok (.ireturn, 1) := by decide +kernel
theorem dX1_count_0 : decode cX1_count 0 = .ok (.iload_n 1, 1) := by decide +kernel
theorem dX1_count_1 : decode cX1_count 1 = .ok (.iconst 4, 1) := by decide +kernel
theorem dX1_count_2 : decode cX1_count 2 = .ok (.invokestatic 70, 3) := by decide +kernel
theorem dX1_count_5 : decode cX1_count 5 = .ok (.ifCond .eq 12, 3) := by decide +kernel
theorem dX1_count_8 : decode cX1_count 8 = .ok (.aload_n 0, 1) := by decide +kernel
theorem dX1_count_9 : decode cX1_count 9 = .ok (.getfield 19, 3) := by decide +kernel
theorem dX1_count_12 : decode cX1_count 12 = .ok (.iload_n 1, 1) := by decide +kernel
theorem dX1_count_13 : decode cX1_count 13 = .ok (.iaload, 1) := by decide +kernel
theorem dX1_count_14 : decode cX1_count 14 = .ok (.goto 4, 3) := by decide +kernel
theorem dX1_count_17 : decode cX1_count 17 = .ok (.iconst (-1), 1) := by decide +kernel
theorem dX1_count_18 : decode cX1_count 18 = .ok (.ireturn, 1) := by decide +kernel
theorem dX1_hits_0 : decode cX1_hits 0 = .ok (.aload_n 0, 1) := by decide +kernel
theorem dX1_hits_1 : decode cX1_hits 1 = .ok (.getfield 35, 3) := by decide +kernel
theorem dX1_hits_4 : decode cX1_hits 4 = .ok (.ireturn, 1) := by decide +kernel
theorem dX1_misses_0 : decode cX1_misses 0 = .ok (.aload_n 0, 1) := by decide +kernel
theorem dX1_misses_1 : decode cX1_misses 1 = .ok (.getfield 38, 3) := by decide +kernel
theorem dX1_misses_4 : decode cX1_misses 4 = .ok (.ireturn, 1) := by decide +kernel
theorem dX1_latest_0 : decode cX1_latest 0 = .ok (.iload_n 1, 1) := by decide +kernel
theorem dX1_latest_1 : decode cX1_latest 1 = .ok (.bipush 7, 2) := by decide +kernel
theorem dX1_latest_3 : decode cX1_latest 3 = .ok (.invokestatic 70, 3) := by decide +kernel
theorem dX1_latest_6 : decode cX1_latest 6 = .ok (.ifCond .eq 20, 3) := by decide +kernel
theorem dX1_latest_9 : decode cX1_latest 9 = .ok (.iload_n 1, 1) := by decide +kernel
theorem dX1_latest_10 : decode cX1_latest 10 = .ok (.aload_n 0, 1) := by decide +kernel
theorem dX1_latest_11 : decode cX1_latest 11 = .ok (.getfield 32, 3) := by decide +kernel
theorem dX1_latest_14 : decode cX1_latest 14 = .ok (.if_icmp .ge 12, 3) := by decide +kernel
theorem dX1_latest_17 : decode cX1_latest 17 = .ok (.aload_n 0, 1) := by decide +kernel
theorem dX1_latest_18 : decode cX1_latest 18 = .ok (.getfield 22, 3) := by decide +kernel
theorem dX1_latest_21 : decode cX1_latest 21 = .ok (.iload_n 1, 1) := by decide +kernel
theorem dX1_latest_22 : decode cX1_latest 22 = .ok (.iaload, 1) := by decide +kernel
theorem dX1_latest_23 : decode cX1_latest 23 = .ok (.goto 4, 3) := by decide +kernel
theorem dX1_latest_26 : decode cX1_latest 26 = .ok (.iconst (-1), 1) := by decide +kernel
theorem dX1_latest_27 : decode cX1_latest 27 = .ok (.ireturn, 1) := by decide +kernel
theorem dX1_thrown_0 : decode cX1_thrown 0 = .ok (.aload_n 0, 1) := by decide +kernel
theorem dX1_thrown_1 : decode cX1_thrown 1 = .ok (.getfield 29, 3) := by decide +kernel
theorem dX1_thrown_4 : decode cX1_thrown 4 = .ok (.ireturn, 1) := by decide +kernel
end
section
theorem gw_0 : (.initialized RL : Cond) ∈ GT := gt_m (List.mem_append_right _ (List.mem_append_left _ (List.mem_of_getElem? (i := 0) (by decide +kernel)))) (by first | rfl | decide +kernel)
theorem gw_1 : (.initialized RX0 : Cond) ∈ GT := gt_m (List.mem_append_right _ (List.mem_append_left _ (List.mem_of_getElem? (i := 1) (by decide +kernel)))) (by first | rfl | decide +kernel)
theorem gw_2 : (.initialized RJ7 : Cond) ∈ GT := gt_m (List.mem_append_right _ (List.mem_append_left _ (List.mem_of_getElem? (i := 2) (by decide +kernel)))) (by first | rfl | decide +kernel)
theorem gw_3 : (.initialized RX1 : Cond) ∈ GT := gt_m (List.mem_append_right _ (List.mem_append_left _ (List.mem_of_getElem? (i := 3) (by decide +kernel)))) (by first | rfl | decide +kernel)
theorem gw_4 : (.initialized "java/lang/Throwable" : Cond) ∈ GT := gt_m (List.mem_append_right _ (List.mem_append_left _ (List.mem_of_getElem? (i := 4) (by decide +kernel)))) (by first | rfl | decide +kernel)
theorem gw_5 : (.initialized "java/lang/Exception" : Cond) ∈ GT := gt_m (List.mem_append_right _ (List.mem_append_left _ (List.mem_of_getElem? (i := 5) (by decide +kernel)))) (by first | rfl | decide +kernel)
theorem gw_6 : (.initialized "java/lang/RuntimeException" : Cond) ∈ GT := gt_m (List.mem_append_right _ (List.mem_append_left _ (List.mem_of_getElem? (i := 6) (by decide +kernel)))) (by first | rfl | decide +kernel)
theorem gw_7 : (.initialized "java/lang/IllegalArgumentException" : Cond) ∈ GT := gt_m (List.mem_append_right _ (List.mem_append_left _ (List.mem_of_getElem? (i := 7) (by decide +kernel)))) (by first | rfl | decide +kernel)
theorem gw_8 : (.initialized "java/lang/System" : Cond) ∈ GT := gt_m (List.mem_append_right _ (List.mem_append_left _ (List.mem_of_getElem? (i := 8) (by decide +kernel)))) (by first | rfl | decide +kernel)
theorem gw_9 : (.initialized "java/lang/IllegalStateException" : Cond) ∈ GT := gt_m (List.mem_append_right _ (List.mem_append_left _ (List.mem_of_getElem? (i := 9) (by decide +kernel)))) (by first | rfl | decide +kernel)
theorem gw_10 : (.classLink RL 8 RX0 : Cond) ∈ GT := gt_m (List.mem_append_right _ (List.mem_append_left _ (List.mem_of_getElem? (i := 10) (by decide +kernel)))) (by first | rfl | decide +kernel)
theorem gw_11 : (.instantiable RX0 10 : Cond) ∈ GT := gt_m (List.mem_append_right _ (List.mem_append_left _ (List.mem_of_getElem? (i := 11) (by decide +kernel)))) (by first | rfl | decide +kernel)
theorem gw_12 : (.methodLink RL 25 yX0_init : Cond) ∈ GT := gt_m (List.mem_append_right _ (List.mem_append_left _ (List.mem_of_getElem? (i := 12) (by decide +kernel)))) (by first | rfl | decide +kernel)
theorem gw_13 : (.instanceMethod yX0_init : Cond) ∈ GT := gt_m (List.mem_append_right _ (List.mem_append_left _ (List.mem_of_getElem? (i := 13) (by decide +kernel)))) (by first | rfl | decide +kernel)
theorem gw_14 : (.code yX0_init cX0_init 1 none : Cond) ∈ GT := gt_m (List.mem_append_right _ (List.mem_append_left _ (List.mem_of_getElem? (i := 14) rfl))) (by first | rfl | decide +kernel)
theorem gw_15 : (.methodLink RX0 1 objectInit : Cond) ∈ GT := gt_m (List.mem_append_right _ (List.mem_append_left _ (List.mem_of_getElem? (i := 15) (by decide +kernel)))) (by first | rfl | decide +kernel)
theorem gw_16 : (.instanceMethod objectInit : Cond) ∈ GT := gt_m (List.mem_append_right _ (List.mem_append_left _ (List.mem_of_getElem? (i := 16) (by decide +kernel)))) (by first | rfl | decide +kernel)
theorem gw_17 : (.code objectInit ⟨#[0xb1]⟩ 1 none : Cond) ∈ GT := gt_m (List.mem_append_right _ (List.mem_append_left _ (List.mem_of_getElem? (i := 17) rfl))) (by first | rfl | decide +kernel)
theorem gw_18 : (.methodLink RX0 28 yX0_startOver : Cond) ∈ GT := gt_m (List.mem_append_right _ (List.mem_append_left _ (List.mem_of_getElem? (i := 18) (by decide +kernel)))) (by first | rfl | decide +kernel)
theorem gw_19 : (.instanceMethod yX0_startOver : Cond) ∈ GT := gt_m (List.mem_append_right _ (List.mem_append_left _ (List.mem_of_getElem? (i := 20) (by decide +kernel)))) (by first | rfl | decide +kernel)
theorem gw_20 : (.code yX0_startOver cX0_startOver 2 none : Cond) ∈ GT := gt_m (List.mem_append_right _ (List.mem_append_left _ (List.mem_of_getElem? (i := 21) rfl))) (by first | rfl | decide +kernel)
theorem gw_21 : (.methodLink RX0 102 yJ7_fill : Cond) ∈ GT := gt_m (List.mem_append_right _ (List.mem_append_left _ (List.mem_of_getElem? (i := 22) (by decide +kernel)))) (by first | rfl | decide +kernel)
theorem gw_22 : (.static yJ7_fill : Cond) ∈ GT := gt_m (List.mem_append_right _ (List.mem_append_left _ (List.mem_of_getElem? (i := 23) (by decide +kernel)))) (by first | rfl | decide +kernel)
theorem gw_23 : (.code yJ7_fill cJ7_fill 4 none : Cond) ∈ GT := gt_m (List.mem_append_right _ (List.mem_append_left _ (List.mem_of_getElem? (i := 24) rfl))) (by first | rfl | decide +kernel)
theorem gw_24 : (.fieldLink RX0 9 "SnoopBus" "lineStates" "[I" : Cond) ∈ GT := gt_m (List.mem_append_right _ (List.mem_append_left _ (List.mem_of_getElem? (i := 25) (by decide +kernel)))) (by first | rfl | decide +kernel)
theorem gw_25 : (.fieldLink RX0 13 "SnoopBus" "lineBlocks" "[I" : Cond) ∈ GT := gt_m (List.mem_append_right _ (List.mem_append_left _ (List.mem_of_getElem? (i := 26) (by decide +kernel)))) (by first | rfl | decide +kernel)
theorem gw_26 : (.fieldLink RX0 16 "SnoopBus" "lineWords" "[I" : Cond) ∈ GT := gt_m (List.mem_append_right _ (List.mem_append_left _ (List.mem_of_getElem? (i := 27) (by decide +kernel)))) (by first | rfl | decide +kernel)
theorem gw_27 : (.fieldLink RX0 19 "SnoopBus" "memoryWords" "[I" : Cond) ∈ GT := gt_m (List.mem_append_right _ (List.mem_append_left _ (List.mem_of_getElem? (i := 28) (by decide +kernel)))) (by first | rfl | decide +kernel)
theorem gw_28 : (.fieldLink RX0 22 "SnoopBus" "kindCounts" "[I" : Cond) ∈ GT := gt_m (List.mem_append_right _ (List.mem_append_left _ (List.mem_of_getElem? (i := 29) (by decide +kernel)))) (by first | rfl | decide +kernel)
theorem gw_29 : (.fieldLink RX0 25 "SnoopBus" "recent" "[I" : Cond) ∈ GT := gt_m (List.mem_append_right _ (List.mem_append_left _ (List.mem_of_getElem? (i := 30) (by decide +kernel)))) (by first | rfl | decide +kernel)
theorem gw_30 : (.fieldLink RX0 32 "SnoopBus" "chosen" "I" : Cond) ∈ GT := gt_m (List.mem_append_right _ (List.mem_append_left _ (List.mem_of_getElem? (i := 31) (by decide +kernel)))) (by first | rfl | decide +kernel)
theorem gw_31 : (.fieldLink RX0 62 "SnoopBus" "transactions" "I" : Cond) ∈ GT := gt_m (List.mem_append_right _ (List.mem_append_left _ (List.mem_of_getElem? (i := 32) (by decide +kernel)))) (by first | rfl | decide +kernel)
theorem gw_32 : (.fieldLink RX0 96 "SnoopBus" "hitCount" "I" : Cond) ∈ GT := gt_m (List.mem_append_right _ (List.mem_append_left _ (List.mem_of_getElem? (i := 33) (by decide +kernel)))) (by first | rfl | decide +kernel)
theorem gw_33 : (.fieldLink RX0 99 "SnoopBus" "missCount" "I" : Cond) ∈ GT := gt_m (List.mem_append_right _ (List.mem_append_left _ (List.mem_of_getElem? (i := 34) (by decide +kernel)))) (by first | rfl | decide +kernel)
theorem gw_34 : (.arrayClass .int : Cond) ∈ GT := gt_m (List.mem_append_right _ (List.mem_append_left _ (List.mem_of_getElem? (i := 56) (by decide +kernel)))) (by first | rfl | decide +kernel)
theorem gw_35 : (.methodLink RL 29 yX0_choose : Cond) ∈ GT := gt_m (List.mem_append_right _ (List.mem_append_left _ (List.mem_of_getElem? (i := 57) (by decide +kernel)))) (by first | rfl | decide +kernel)
theorem gw_36 : (.instanceMethod yX0_choose : Cond) ∈ GT := gt_m (List.mem_append_right _ (List.mem_append_left _ (List.mem_of_getElem? (i := 58) (by decide +kernel)))) (by first | rfl | decide +kernel)
theorem gw_37 : (.selects RX0 yX0_choose yX0_choose : Cond) ∈ GT := gt_m (List.mem_append_right _ (List.mem_append_left _ (List.mem_of_getElem? (i := 59) (by decide +kernel)))) (by first | rfl | decide +kernel)
theorem gw_38 : (.code yX0_choose cX0_choose 2 (some .boolean) : Cond) ∈ GT := gt_m (List.mem_append_right _ (List.mem_append_left _ (List.mem_of_getElem? (i := 60) rfl))) (by first | rfl | decide +kernel)
theorem gw_39 : (.methodLink RL 34 yX0_protocol : Cond) ∈ GT := gt_m (List.mem_append_right _ (List.mem_append_left _ (List.mem_of_getElem? (i := 61) (by decide +kernel)))) (by first | rfl | decide +kernel)
theorem gw_40 : (.instanceMethod yX0_protocol : Cond) ∈ GT := gt_m (List.mem_append_right _ (List.mem_append_left _ (List.mem_of_getElem? (i := 62) (by decide +kernel)))) (by first | rfl | decide +kernel)
theorem gw_41 : (.selects RX0 yX0_protocol yX0_protocol : Cond) ∈ GT := gt_m (List.mem_append_right _ (List.mem_append_left _ (List.mem_of_getElem? (i := 63) (by decide +kernel)))) (by first | rfl | decide +kernel)
theorem gw_42 : (.code yX0_protocol cX0_protocol 1 (some .int) : Cond) ∈ GT := gt_m (List.mem_append_right _ (List.mem_append_left _ (List.mem_of_getElem? (i := 64) rfl))) (by first | rfl | decide +kernel)
theorem gw_43 : (.methodLink RL 55 yX0_flush : Cond) ∈ GT := gt_m (List.mem_append_right _ (List.mem_append_left _ (List.mem_of_getElem? (i := 65) (by decide +kernel)))) (by first | rfl | decide +kernel)
theorem gw_44 : (.instanceMethod yX0_flush : Cond) ∈ GT := gt_m (List.mem_append_right _ (List.mem_append_left _ (List.mem_of_getElem? (i := 66) (by decide +kernel)))) (by first | rfl | decide +kernel)
theorem gw_45 : (.selects RX0 yX0_flush yX0_flush : Cond) ∈ GT := gt_m (List.mem_append_right _ (List.mem_append_left _ (List.mem_of_getElem? (i := 67) (by decide +kernel)))) (by first | rfl | decide +kernel)
theorem gw_46 : (.code yX0_flush cX0_flush 3 (some .int) : Cond) ∈ GT := gt_m (List.mem_append_right _ (List.mem_append_left _ (List.mem_of_getElem? (i := 68) rfl))) (by first | rfl | decide +kernel)
theorem gw_47 : (.methodLink RX0 93 yX0_emptyLine : Cond) ∈ GT := gt_m (List.mem_append_right _ (List.mem_append_left _ (List.mem_of_getElem? (i := 69) (by decide +kernel)))) (by first | rfl | decide +kernel)
theorem gw_48 : (.instanceMethod yX0_emptyLine : Cond) ∈ GT := gt_m (List.mem_append_right _ (List.mem_append_left _ (List.mem_of_getElem? (i := 71) (by decide +kernel)))) (by first | rfl | decide +kernel)
theorem gw_49 : (.code yX0_emptyLine cX0_emptyLine 3 (some .boolean) : Cond) ∈ GT := gt_m (List.mem_append_right _ (List.mem_append_left _ (List.mem_of_getElem? (i := 72) rfl))) (by first | rfl | decide +kernel)
theorem gw_50 : (.methodLink RX0 114 yX0_isDirty : Cond) ∈ GT := gt_m (List.mem_append_right _ (List.mem_append_left _ (List.mem_of_getElem? (i := 73) (by decide +kernel)))) (by first | rfl | decide +kernel)
theorem gw_51 : (.static yX0_isDirty : Cond) ∈ GT := gt_m (List.mem_append_right _ (List.mem_append_left _ (List.mem_of_getElem? (i := 74) (by decide +kernel)))) (by first | rfl | decide +kernel)
theorem gw_52 : (.code yX0_isDirty cX0_isDirty 1 (some .boolean) : Cond) ∈ GT := gt_m (List.mem_append_right _ (List.mem_append_left _ (List.mem_of_getElem? (i := 75) rfl))) (by first | rfl | decide +kernel)
theorem gw_53 : (.methodLink RX0 117 yX0_transact : Cond) ∈ GT := gt_m (List.mem_append_right _ (List.mem_append_left _ (List.mem_of_getElem? (i := 76) (by decide +kernel)))) (by first | rfl | decide +kernel)
theorem gw_54 : (.instanceMethod yX0_transact : Cond) ∈ GT := gt_m (List.mem_append_right _ (List.mem_append_left _ (List.mem_of_getElem? (i := 78) (by decide +kernel)))) (by first | rfl | decide +kernel)
theorem gw_55 : (.code yX0_transact cX0_transact 5 none : Cond) ∈ GT := gt_m (List.mem_append_right _ (List.mem_append_left _ (List.mem_of_getElem? (i := 79) rfl))) (by first | rfl | decide +kernel)
theorem gw_56 : (.methodLink RX0 120 yX0_copyToMemory : Cond) ∈ GT := gt_m (List.mem_append_right _ (List.mem_append_left _ (List.mem_of_getElem? (i := 80) (by decide +kernel)))) (by first | rfl | decide +kernel)
theorem gw_57 : (.instanceMethod yX0_copyToMemory : Cond) ∈ GT := gt_m (List.mem_append_right _ (List.mem_append_left _ (List.mem_of_getElem? (i := 82) (by decide +kernel)))) (by first | rfl | decide +kernel)
theorem gw_58 : (.code yX0_copyToMemory cX0_copyToMemory 2 none : Cond) ∈ GT := gt_m (List.mem_append_right _ (List.mem_append_left _ (List.mem_of_getElem? (i := 83) rfl))) (by first | rfl | decide +kernel)
theorem gw_59 : (.methodLink RX0 108 arraycopyName : Cond) ∈ GT := gt_m (List.mem_append_right _ (List.mem_append_left _ (List.mem_of_getElem? (i := 84) (by decide +kernel)))) (by first | rfl | decide +kernel)
theorem gw_60 : (.static arraycopyName : Cond) ∈ GT := gt_m (List.mem_append_right _ (List.mem_append_left _ (List.mem_of_getElem? (i := 85) (by decide +kernel)))) (by first | rfl | decide +kernel)
theorem gw_61 : (.native arraycopyName : Cond) ∈ GT := gt_m (List.mem_append_right _ (List.mem_append_left _ (List.mem_of_getElem? (i := 86) (by decide +kernel)))) (by first | rfl | decide +kernel)
theorem gw_62 : (.methodLink RL 59 yX0_state : Cond) ∈ GT := gt_m (List.mem_append_right _ (List.mem_append_left _ (List.mem_of_getElem? (i := 87) (by decide +kernel)))) (by first | rfl | decide +kernel)
theorem gw_63 : (.instanceMethod yX0_state : Cond) ∈ GT := gt_m (List.mem_append_right _ (List.mem_append_left _ (List.mem_of_getElem? (i := 88) (by decide +kernel)))) (by first | rfl | decide +kernel)
theorem gw_64 : (.selects RX0 yX0_state yX0_state : Cond) ∈ GT := gt_m (List.mem_append_right _ (List.mem_append_left _ (List.mem_of_getElem? (i := 89) (by decide +kernel)))) (by first | rfl | decide +kernel)
theorem gw_65 : (.code yX0_state cX0_state 3 (some .int) : Cond) ∈ GT := gt_m (List.mem_append_right _ (List.mem_append_left _ (List.mem_of_getElem? (i := 90) rfl))) (by first | rfl | decide +kernel)
theorem gw_66 : (.methodLink RX0 36 yX0_isProcessor : Cond) ∈ GT := gt_m (List.mem_append_right _ (List.mem_append_left _ (List.mem_of_getElem? (i := 91) (by decide +kernel)))) (by first | rfl | decide +kernel)
theorem gw_67 : (.static yX0_isProcessor : Cond) ∈ GT := gt_m (List.mem_append_right _ (List.mem_append_left _ (List.mem_of_getElem? (i := 92) (by decide +kernel)))) (by first | rfl | decide +kernel)
theorem gw_68 : (.code yX0_isProcessor cX0_isProcessor 1 (some .boolean) : Cond) ∈ GT := gt_m (List.mem_append_right _ (List.mem_append_left _ (List.mem_of_getElem? (i := 93) rfl))) (by first | rfl | decide +kernel)
theorem gw_69 : (.methodLink RX0 76 yX0_isBlock : Cond) ∈ GT := gt_m (List.mem_append_right _ (List.mem_append_left _ (List.mem_of_getElem? (i := 94) (by decide +kernel)))) (by first | rfl | decide +kernel)
theorem gw_70 : (.static yX0_isBlock : Cond) ∈ GT := gt_m (List.mem_append_right _ (List.mem_append_left _ (List.mem_of_getElem? (i := 95) (by decide +kernel)))) (by first | rfl | decide +kernel)
theorem gw_71 : (.code yX0_isBlock cX0_isBlock 1 (some .boolean) : Cond) ∈ GT := gt_m (List.mem_append_right _ (List.mem_append_left _ (List.mem_of_getElem? (i := 96) rfl))) (by first | rfl | decide +kernel)
theorem gw_72 : (.methodLink RX0 81 yX0_holds : Cond) ∈ GT := gt_m (List.mem_append_right _ (List.mem_append_left _ (List.mem_of_getElem? (i := 97) (by decide +kernel)))) (by first | rfl | decide +kernel)
theorem gw_73 : (.instanceMethod yX0_holds : Cond) ∈ GT := gt_m (List.mem_append_right _ (List.mem_append_left _ (List.mem_of_getElem? (i := 99) (by decide +kernel)))) (by first | rfl | decide +kernel)
theorem gw_74 : (.code yX0_holds cX0_holds 4 (some .boolean) : Cond) ∈ GT := gt_m (List.mem_append_right _ (List.mem_append_left _ (List.mem_of_getElem? (i := 100) rfl))) (by first | rfl | decide +kernel)
theorem gw_75 : (.methodLink RX0 90 yX0_lineFor : Cond) ∈ GT := gt_m (List.mem_append_right _ (List.mem_append_left _ (List.mem_of_getElem? (i := 101) (by decide +kernel)))) (by first | rfl | decide +kernel)
theorem gw_76 : (.static yX0_lineFor : Cond) ∈ GT := gt_m (List.mem_append_right _ (List.mem_append_left _ (List.mem_of_getElem? (i := 102) (by decide +kernel)))) (by first | rfl | decide +kernel)
theorem gw_77 : (.code yX0_lineFor cX0_lineFor 2 (some .int) : Cond) ∈ GT := gt_m (List.mem_append_right _ (List.mem_append_left _ (List.mem_of_getElem? (i := 103) rfl))) (by first | rfl | decide +kernel)
theorem gw_78 : (.methodLink RL 63 yX0_cached : Cond) ∈ GT := gt_m (List.mem_append_right _ (List.mem_append_left _ (List.mem_of_getElem? (i := 104) (by decide +kernel)))) (by first | rfl | decide +kernel)
theorem gw_79 : (.instanceMethod yX0_cached : Cond) ∈ GT := gt_m (List.mem_append_right _ (List.mem_append_left _ (List.mem_of_getElem? (i := 105) (by decide +kernel)))) (by first | rfl | decide +kernel)
theorem gw_80 : (.selects RX0 yX0_cached yX0_cached : Cond) ∈ GT := gt_m (List.mem_append_right _ (List.mem_append_left _ (List.mem_of_getElem? (i := 106) (by decide +kernel)))) (by first | rfl | decide +kernel)
theorem gw_81 : (.code yX0_cached cX0_cached 3 (some .int) : Cond) ∈ GT := gt_m (List.mem_append_right _ (List.mem_append_left _ (List.mem_of_getElem? (i := 107) rfl))) (by first | rfl | decide +kernel)
theorem gw_82 : (.methodLink RX0 40 yX0_isAddress : Cond) ∈ GT := gt_m (List.mem_append_right _ (List.mem_append_left _ (List.mem_of_getElem? (i := 108) (by decide +kernel)))) (by first | rfl | decide +kernel)
theorem gw_83 : (.static yX0_isAddress : Cond) ∈ GT := gt_m (List.mem_append_right _ (List.mem_append_left _ (List.mem_of_getElem? (i := 109) (by decide +kernel)))) (by first | rfl | decide +kernel)
theorem gw_84 : (.code yX0_isAddress cX0_isAddress 1 (some .boolean) : Cond) ∈ GT := gt_m (List.mem_append_right _ (List.mem_append_left _ (List.mem_of_getElem? (i := 110) rfl))) (by first | rfl | decide +kernel)
theorem gw_85 : (.methodLink RX0 50 yX0_blockOf : Cond) ∈ GT := gt_m (List.mem_append_right _ (List.mem_append_left _ (List.mem_of_getElem? (i := 111) (by decide +kernel)))) (by first | rfl | decide +kernel)
theorem gw_86 : (.static yX0_blockOf : Cond) ∈ GT := gt_m (List.mem_append_right _ (List.mem_append_left _ (List.mem_of_getElem? (i := 112) (by decide +kernel)))) (by first | rfl | decide +kernel)
theorem gw_87 : (.code yX0_blockOf cX0_blockOf 1 (some .int) : Cond) ∈ GT := gt_m (List.mem_append_right _ (List.mem_append_left _ (List.mem_of_getElem? (i := 113) rfl))) (by first | rfl | decide +kernel)
theorem gw_88 : (.methodLink RX0 58 yX0_wordIndex : Cond) ∈ GT := gt_m (List.mem_append_right _ (List.mem_append_left _ (List.mem_of_getElem? (i := 114) (by decide +kernel)))) (by first | rfl | decide +kernel)
theorem gw_89 : (.static yX0_wordIndex : Cond) ∈ GT := gt_m (List.mem_append_right _ (List.mem_append_left _ (List.mem_of_getElem? (i := 115) (by decide +kernel)))) (by first | rfl | decide +kernel)
theorem gw_90 : (.code yX0_wordIndex cX0_wordIndex 2 (some .int) : Cond) ∈ GT := gt_m (List.mem_append_right _ (List.mem_append_left _ (List.mem_of_getElem? (i := 116) rfl))) (by first | rfl | decide +kernel)
theorem gw_91 : (.methodLink RL 67 yX0_memory : Cond) ∈ GT := gt_m (List.mem_append_right _ (List.mem_append_left _ (List.mem_of_getElem? (i := 117) (by decide +kernel)))) (by first | rfl | decide +kernel)
theorem gw_92 : (.instanceMethod yX0_memory : Cond) ∈ GT := gt_m (List.mem_append_right _ (List.mem_append_left _ (List.mem_of_getElem? (i := 118) (by decide +kernel)))) (by first | rfl | decide +kernel)
theorem gw_93 : (.selects RX0 yX0_memory yX0_memory : Cond) ∈ GT := gt_m (List.mem_append_right _ (List.mem_append_left _ (List.mem_of_getElem? (i := 119) (by decide +kernel)))) (by first | rfl | decide +kernel)
theorem gw_94 : (.code yX0_memory cX0_memory 2 (some .int) : Cond) ∈ GT := gt_m (List.mem_append_right _ (List.mem_append_left _ (List.mem_of_getElem? (i := 120) rfl))) (by first | rfl | decide +kernel)
theorem gw_95 : (.methodLink RL 72 yX0_count : Cond) ∈ GT := gt_m (List.mem_append_right _ (List.mem_append_left _ (List.mem_of_getElem? (i := 121) (by decide +kernel)))) (by first | rfl | decide +kernel)
theorem gw_96 : (.instanceMethod yX0_count : Cond) ∈ GT := gt_m (List.mem_append_right _ (List.mem_append_left _ (List.mem_of_getElem? (i := 122) (by decide +kernel)))) (by first | rfl | decide +kernel)
theorem gw_97 : (.selects RX0 yX0_count yX0_count : Cond) ∈ GT := gt_m (List.mem_append_right _ (List.mem_append_left _ (List.mem_of_getElem? (i := 123) (by decide +kernel)))) (by first | rfl | decide +kernel)
theorem gw_98 : (.code yX0_count cX0_count 2 (some .int) : Cond) ∈ GT := gt_m (List.mem_append_right _ (List.mem_append_left _ (List.mem_of_getElem? (i := 124) rfl))) (by first | rfl | decide +kernel)
theorem gw_99 : (.methodLink RL 76 yX0_hits : Cond) ∈ GT := gt_m (List.mem_append_right _ (List.mem_append_left _ (List.mem_of_getElem? (i := 125) (by decide +kernel)))) (by first | rfl | decide +kernel)
theorem gw_100 : (.instanceMethod yX0_hits : Cond) ∈ GT := gt_m (List.mem_append_right _ (List.mem_append_left _ (List.mem_of_getElem? (i := 126) (by decide +kernel)))) (by first | rfl | decide +kernel)
theorem gw_101 : (.selects RX0 yX0_hits yX0_hits : Cond) ∈ GT := gt_m (List.mem_append_right _ (List.mem_append_left _ (List.mem_of_getElem? (i := 127) (by decide +kernel)))) (by first | rfl | decide +kernel)
theorem gw_102 : (.code yX0_hits cX0_hits 1 (some .int) : Cond) ∈ GT := gt_m (List.mem_append_right _ (List.mem_append_left _ (List.mem_of_getElem? (i := 128) rfl))) (by first | rfl | decide +kernel)
theorem gw_103 : (.methodLink RL 80 yX0_misses : Cond) ∈ GT := gt_m (List.mem_append_right _ (List.mem_append_left _ (List.mem_of_getElem? (i := 129) (by decide +kernel)))) (by first | rfl | decide +kernel)
theorem gw_104 : (.instanceMethod yX0_misses : Cond) ∈ GT := gt_m (List.mem_append_right _ (List.mem_append_left _ (List.mem_of_getElem? (i := 130) (by decide +kernel)))) (by first | rfl | decide +kernel)
theorem gw_105 : (.selects RX0 yX0_misses yX0_misses : Cond) ∈ GT := gt_m (List.mem_append_right _ (List.mem_append_left _ (List.mem_of_getElem? (i := 131) (by decide +kernel)))) (by first | rfl | decide +kernel)
theorem gw_106 : (.code yX0_misses cX0_misses 1 (some .int) : Cond) ∈ GT := gt_m (List.mem_append_right _ (List.mem_append_left _ (List.mem_of_getElem? (i := 132) rfl))) (by first | rfl | decide +kernel)
theorem gw_107 : (.methodLink RL 84 yX0_latest : Cond) ∈ GT := gt_m (List.mem_append_right _ (List.mem_append_left _ (List.mem_of_getElem? (i := 133) (by decide +kernel)))) (by first | rfl | decide +kernel)
theorem gw_108 : (.instanceMethod yX0_latest : Cond) ∈ GT := gt_m (List.mem_append_right _ (List.mem_append_left _ (List.mem_of_getElem? (i := 134) (by decide +kernel)))) (by first | rfl | decide +kernel)
theorem gw_109 : (.selects RX0 yX0_latest yX0_latest : Cond) ∈ GT := gt_m (List.mem_append_right _ (List.mem_append_left _ (List.mem_of_getElem? (i := 135) (by decide +kernel)))) (by first | rfl | decide +kernel)
theorem gw_110 : (.code yX0_latest cX0_latest 2 (some .int) : Cond) ∈ GT := gt_m (List.mem_append_right _ (List.mem_append_left _ (List.mem_of_getElem? (i := 136) rfl))) (by first | rfl | decide +kernel)
theorem gw_111 : (.methodLink RL 39 yL_read : Cond) ∈ GT := gt_m (List.mem_append_right _ (List.mem_append_left _ (List.mem_of_getElem? (i := 137) (by decide +kernel)))) (by first | rfl | decide +kernel)
theorem gw_112 : (.static yL_read : Cond) ∈ GT := gt_m (List.mem_append_right _ (List.mem_append_left _ (List.mem_of_getElem? (i := 138) (by decide +kernel)))) (by first | rfl | decide +kernel)
theorem gw_113 : (.classLink RL 13 "java/lang/IllegalArgumentException" : Cond) ∈ GT := gt_m (List.mem_append_right _ (List.mem_append_left _ (List.mem_of_getElem? (i := 140) (by decide +kernel)))) (by first | rfl | decide +kernel)
theorem gw_114 : (.methodLink RL 7 yX0_read : Cond) ∈ GT := gt_m (List.mem_append_right _ (List.mem_append_left _ (List.mem_of_getElem? (i := 141) (by decide +kernel)))) (by first | rfl | decide +kernel)
theorem gw_115 : (.instanceMethod yX0_read : Cond) ∈ GT := gt_m (List.mem_append_right _ (List.mem_append_left _ (List.mem_of_getElem? (i := 142) (by decide +kernel)))) (by first | rfl | decide +kernel)
theorem gw_116 : (.selects RX0 yX0_read yX0_read : Cond) ∈ GT := gt_m (List.mem_append_right _ (List.mem_append_left _ (List.mem_of_getElem? (i := 143) (by decide +kernel)))) (by first | rfl | decide +kernel)
theorem gw_117 : (.code yX0_read cX0_read 3 (some .int) : Cond) ∈ GT := gt_m (List.mem_append_right _ (List.mem_append_left _ (List.mem_of_getElem? (i := 144) rfl))) (by first | rfl | decide +kernel)
theorem gw_118 : (.classLink RX0 43 "java/lang/IllegalArgumentException" : Cond) ∈ GT := gt_m (List.mem_append_right _ (List.mem_append_left _ (List.mem_of_getElem? (i := 145) (by decide +kernel)))) (by first | rfl | decide +kernel)
theorem gw_119 : (.methodLink RX0 47 (⟨"java/lang/IllegalArgumentException", "<init>", "(Ljava/lang/String;)V"⟩ : MethodName) : Cond) ∈ GT := gt_m (List.mem_append_right _ (List.mem_append_left _ (List.mem_of_getElem? (i := 186) (by decide +kernel)))) (by first | rfl | decide +kernel)
theorem gw_120 : (.arrayClass .byte : Cond) ∈ GT := gt_m (List.mem_append_right _ (List.mem_append_left _ (List.mem_of_getElem? (i := 211) (by decide +kernel)))) (by first | rfl | decide +kernel)
theorem gw_121 : (.methodLink RX0 54 yX0_bringIn : Cond) ∈ GT := gt_m (List.mem_append_right _ (List.mem_append_left _ (List.mem_of_getElem? (i := 212) (by decide +kernel)))) (by first | rfl | decide +kernel)
theorem gw_122 : (.instanceMethod yX0_bringIn : Cond) ∈ GT := gt_m (List.mem_append_right _ (List.mem_append_left _ (List.mem_of_getElem? (i := 214) (by decide +kernel)))) (by first | rfl | decide +kernel)
theorem gw_123 : (.code yX0_bringIn cX0_bringIn 4 none : Cond) ∈ GT := gt_m (List.mem_append_right _ (List.mem_append_left _ (List.mem_of_getElem? (i := 215) rfl))) (by first | rfl | decide +kernel)
theorem gw_124 : (.methodLink RX0 123 yX0_load : Cond) ∈ GT := gt_m (List.mem_append_right _ (List.mem_append_left _ (List.mem_of_getElem? (i := 216) (by decide +kernel)))) (by first | rfl | decide +kernel)
theorem gw_125 : (.instanceMethod yX0_load : Cond) ∈ GT := gt_m (List.mem_append_right _ (List.mem_append_left _ (List.mem_of_getElem? (i := 218) (by decide +kernel)))) (by first | rfl | decide +kernel)
theorem gw_126 : (.code yX0_load cX0_load 6 none : Cond) ∈ GT := gt_m (List.mem_append_right _ (List.mem_append_left _ (List.mem_of_getElem? (i := 219) rfl))) (by first | rfl | decide +kernel)
theorem gw_127 : (.methodLink RX0 126 yX0_fetchWords : Cond) ∈ GT := gt_m (List.mem_append_right _ (List.mem_append_left _ (List.mem_of_getElem? (i := 220) (by decide +kernel)))) (by first | rfl | decide +kernel)
theorem gw_128 : (.instanceMethod yX0_fetchWords : Cond) ∈ GT := gt_m (List.mem_append_right _ (List.mem_append_left _ (List.mem_of_getElem? (i := 222) (by decide +kernel)))) (by first | rfl | decide +kernel)
theorem gw_129 : (.code yX0_fetchWords cX0_fetchWords 4 none : Cond) ∈ GT := gt_m (List.mem_append_right _ (List.mem_append_left _ (List.mem_of_getElem? (i := 223) rfl))) (by first | rfl | decide +kernel)
theorem gw_130 : (.methodLink RX0 135 yX0_dirtyLine : Cond) ∈ GT := gt_m (List.mem_append_right _ (List.mem_append_left _ (List.mem_of_getElem? (i := 224) (by decide +kernel)))) (by first | rfl | decide +kernel)
theorem gw_131 : (.instanceMethod yX0_dirtyLine : Cond) ∈ GT := gt_m (List.mem_append_right _ (List.mem_append_left _ (List.mem_of_getElem? (i := 226) (by decide +kernel)))) (by first | rfl | decide +kernel)
theorem gw_132 : (.code yX0_dirtyLine cX0_dirtyLine 4 (some .int) : Cond) ∈ GT := gt_m (List.mem_append_right _ (List.mem_append_left _ (List.mem_of_getElem? (i := 227) rfl))) (by first | rfl | decide +kernel)
theorem gw_133 : (.methodLink RX0 129 yX0_dropOthers : Cond) ∈ GT := gt_m (List.mem_append_right _ (List.mem_append_left _ (List.mem_of_getElem? (i := 228) (by decide +kernel)))) (by first | rfl | decide +kernel)
theorem gw_134 : (.instanceMethod yX0_dropOthers : Cond) ∈ GT := gt_m (List.mem_append_right _ (List.mem_append_left _ (List.mem_of_getElem? (i := 230) (by decide +kernel)))) (by first | rfl | decide +kernel)
theorem gw_135 : (.code yX0_dropOthers cX0_dropOthers 4 none : Cond) ∈ GT := gt_m (List.mem_append_right _ (List.mem_append_left _ (List.mem_of_getElem? (i := 231) rfl))) (by first | rfl | decide +kernel)
theorem gw_136 : (.methodLink RX0 132 yX0_shareWithOthers : Cond) ∈ GT := gt_m (List.mem_append_right _ (List.mem_append_left _ (List.mem_of_getElem? (i := 232) (by decide +kernel)))) (by first | rfl | decide +kernel)
theorem gw_137 : (.instanceMethod yX0_shareWithOthers : Cond) ∈ GT := gt_m (List.mem_append_right _ (List.mem_append_left _ (List.mem_of_getElem? (i := 234) (by decide +kernel)))) (by first | rfl | decide +kernel)
theorem gw_138 : (.code yX0_shareWithOthers cX0_shareWithOthers 5 (some .int) : Cond) ∈ GT := gt_m (List.mem_append_right _ (List.mem_append_left _ (List.mem_of_getElem? (i := 235) rfl))) (by first | rfl | decide +kernel)
theorem gw_139 : (.methodLink RX0 138 yX0_yieldToReader : Cond) ∈ GT := gt_m (List.mem_append_right _ (List.mem_append_left _ (List.mem_of_getElem? (i := 236) (by decide +kernel)))) (by first | rfl | decide +kernel)
theorem gw_140 : (.instanceMethod yX0_yieldToReader : Cond) ∈ GT := gt_m (List.mem_append_right _ (List.mem_append_left _ (List.mem_of_getElem? (i := 238) (by decide +kernel)))) (by first | rfl | decide +kernel)
theorem gw_141 : (.code yX0_yieldToReader cX0_yieldToReader 3 none : Cond) ∈ GT := gt_m (List.mem_append_right _ (List.mem_append_left _ (List.mem_of_getElem? (i := 239) rfl))) (by first | rfl | decide +kernel)
theorem gw_142 : (.methodLink RL 48 yL_write : Cond) ∈ GT := gt_m (List.mem_append_right _ (List.mem_append_right _ (List.mem_of_getElem? (i := 0) (by decide +kernel)))) (by first | rfl | decide +kernel)
theorem gw_143 : (.static yL_write : Cond) ∈ GT := gt_m (List.mem_append_right _ (List.mem_append_right _ (List.mem_of_getElem? (i := 1) (by decide +kernel)))) (by first | rfl | decide +kernel)
theorem gw_144 : (.methodLink RL 15 yX0_write : Cond) ∈ GT := gt_m (List.mem_append_right _ (List.mem_append_right _ (List.mem_of_getElem? (i := 3) (by decide +kernel)))) (by first | rfl | decide +kernel)
theorem gw_145 : (.instanceMethod yX0_write : Cond) ∈ GT := gt_m (List.mem_append_right _ (List.mem_append_right _ (List.mem_of_getElem? (i := 4) (by decide +kernel)))) (by first | rfl | decide +kernel)
theorem gw_146 : (.selects RX0 yX0_write yX0_write : Cond) ∈ GT := gt_m (List.mem_append_right _ (List.mem_append_right _ (List.mem_of_getElem? (i := 5) (by decide +kernel)))) (by first | rfl | decide +kernel)
theorem gw_147 : (.code yX0_write cX0_write 5 (some .int) : Cond) ∈ GT := gt_m (List.mem_append_right _ (List.mem_append_right _ (List.mem_of_getElem? (i := 6) rfl))) (by first | rfl | decide +kernel)
theorem gw_148 : (.methodLink RX0 65 yX0_updates : Cond) ∈ GT := gt_m (List.mem_append_right _ (List.mem_append_right _ (List.mem_of_getElem? (i := 7) (by decide +kernel)))) (by first | rfl | decide +kernel)
theorem gw_149 : (.instanceMethod yX0_updates : Cond) ∈ GT := gt_m (List.mem_append_right _ (List.mem_append_right _ (List.mem_of_getElem? (i := 9) (by decide +kernel)))) (by first | rfl | decide +kernel)
theorem gw_150 : (.code yX0_updates cX0_updates 1 (some .boolean) : Cond) ∈ GT := gt_m (List.mem_append_right _ (List.mem_append_right _ (List.mem_of_getElem? (i := 10) rfl))) (by first | rfl | decide +kernel)
theorem gw_151 : (.methodLink RX0 69 yX0_tellOthers : Cond) ∈ GT := gt_m (List.mem_append_right _ (List.mem_append_right _ (List.mem_of_getElem? (i := 11) (by decide +kernel)))) (by first | rfl | decide +kernel)
theorem gw_152 : (.instanceMethod yX0_tellOthers : Cond) ∈ GT := gt_m (List.mem_append_right _ (List.mem_append_right _ (List.mem_of_getElem? (i := 13) (by decide +kernel)))) (by first | rfl | decide +kernel)
theorem gw_153 : (.code yX0_tellOthers cX0_tellOthers 7 none : Cond) ∈ GT := gt_m (List.mem_append_right _ (List.mem_append_right _ (List.mem_of_getElem? (i := 14) rfl))) (by first | rfl | decide +kernel)
theorem gw_154 : (.methodLink RX0 141 yX0_isPerhapsElsewhere : Cond) ∈ GT := gt_m (List.mem_append_right _ (List.mem_append_right _ (List.mem_of_getElem? (i := 15) (by decide +kernel)))) (by first | rfl | decide +kernel)
theorem gw_155 : (.static yX0_isPerhapsElsewhere : Cond) ∈ GT := gt_m (List.mem_append_right _ (List.mem_append_right _ (List.mem_of_getElem? (i := 16) (by decide +kernel)))) (by first | rfl | decide +kernel)
theorem gw_156 : (.code yX0_isPerhapsElsewhere cX0_isPerhapsElsewhere 1 (some .boolean) : Cond) ∈ GT := gt_m (List.mem_append_right _ (List.mem_append_right _ (List.mem_of_getElem? (i := 17) rfl))) (by first | rfl | decide +kernel)
theorem gw_157 : (.methodLink RX0 144 yX0_updateOthers : Cond) ∈ GT := gt_m (List.mem_append_right _ (List.mem_append_right _ (List.mem_of_getElem? (i := 18) (by decide +kernel)))) (by first | rfl | decide +kernel)
theorem gw_158 : (.instanceMethod yX0_updateOthers : Cond) ∈ GT := gt_m (List.mem_append_right _ (List.mem_append_right _ (List.mem_of_getElem? (i := 20) (by decide +kernel)))) (by first | rfl | decide +kernel)
theorem gw_159 : (.code yX0_updateOthers cX0_updateOthers 6 (some .boolean) : Cond) ∈ GT := gt_m (List.mem_append_right _ (List.mem_append_right _ (List.mem_of_getElem? (i := 21) rfl))) (by first | rfl | decide +kernel)
theorem gw_160 : (.methodLink RX0 72 yX0_claim : Cond) ∈ GT := gt_m (List.mem_append_right _ (List.mem_append_right _ (List.mem_of_getElem? (i := 22) (by decide +kernel)))) (by first | rfl | decide +kernel)
theorem gw_161 : (.instanceMethod yX0_claim : Cond) ∈ GT := gt_m (List.mem_append_right _ (List.mem_append_right _ (List.mem_of_getElem? (i := 24) (by decide +kernel)))) (by first | rfl | decide +kernel)
theorem gw_162 : (.code yX0_claim cX0_claim 4 none : Cond) ∈ GT := gt_m (List.mem_append_right _ (List.mem_append_right _ (List.mem_of_getElem? (i := 25) rfl))) (by first | rfl | decide +kernel)
theorem gw_163 : (.methodLink RL 52 yL_evict : Cond) ∈ GT := gt_m (List.mem_append_right _ (List.mem_append_right _ (List.mem_of_getElem? (i := 26) (by decide +kernel)))) (by first | rfl | decide +kernel)
theorem gw_164 : (.static yL_evict : Cond) ∈ GT := gt_m (List.mem_append_right _ (List.mem_append_right _ (List.mem_of_getElem? (i := 27) (by decide +kernel)))) (by first | rfl | decide +kernel)
theorem gw_165 : (.classLink RL 23 "java/lang/IllegalStateException" : Cond) ∈ GT := gt_m (List.mem_append_right _ (List.mem_append_right _ (List.mem_of_getElem? (i := 29) (by decide +kernel)))) (by first | rfl | decide +kernel)
theorem gw_166 : (.methodLink RL 19 yX0_evict : Cond) ∈ GT := gt_m (List.mem_append_right _ (List.mem_append_right _ (List.mem_of_getElem? (i := 30) (by decide +kernel)))) (by first | rfl | decide +kernel)
theorem gw_167 : (.instanceMethod yX0_evict : Cond) ∈ GT := gt_m (List.mem_append_right _ (List.mem_append_right _ (List.mem_of_getElem? (i := 31) (by decide +kernel)))) (by first | rfl | decide +kernel)
theorem gw_168 : (.selects RX0 yX0_evict yX0_evict : Cond) ∈ GT := gt_m (List.mem_append_right _ (List.mem_append_right _ (List.mem_of_getElem? (i := 32) (by decide +kernel)))) (by first | rfl | decide +kernel)
theorem gw_169 : (.code yX0_evict cX0_evict 3 (some .boolean) : Cond) ∈ GT := gt_m (List.mem_append_right _ (List.mem_append_right _ (List.mem_of_getElem? (i := 33) rfl))) (by first | rfl | decide +kernel)
theorem gw_170 : (.classLink RX0 85 "java/lang/IllegalStateException" : Cond) ∈ GT := gt_m (List.mem_append_right _ (List.mem_append_right _ (List.mem_of_getElem? (i := 35) (by decide +kernel)))) (by first | rfl | decide +kernel)
theorem gw_171 : (.methodLink RX0 89 (⟨"java/lang/IllegalStateException", "<init>", "(Ljava/lang/String;)V"⟩ : MethodName) : Cond) ∈ GT := gt_m (List.mem_append_right _ (List.mem_append_right _ (List.mem_of_getElem? (i := 45) (by decide +kernel)))) (by first | rfl | decide +kernel)
theorem gw_172 : (.classLink RL 26 RX1 : Cond) ∈ GT := gt_m (List.mem_append_right _ (List.mem_append_right _ (List.mem_of_getElem? (i := 51) (by decide +kernel)))) (by first | rfl | decide +kernel)
theorem gw_173 : (.instantiable RX1 10 : Cond) ∈ GT := gt_m (List.mem_append_right _ (List.mem_append_right _ (List.mem_of_getElem? (i := 52) (by decide +kernel)))) (by first | rfl | decide +kernel)
theorem gw_174 : (.methodLink RL 28 yX1_init : Cond) ∈ GT := gt_m (List.mem_append_right _ (List.mem_append_right _ (List.mem_of_getElem? (i := 53) (by decide +kernel)))) (by first | rfl | decide +kernel)
theorem gw_175 : (.instanceMethod yX1_init : Cond) ∈ GT := gt_m (List.mem_append_right _ (List.mem_append_right _ (List.mem_of_getElem? (i := 54) (by decide +kernel)))) (by first | rfl | decide +kernel)
theorem gw_176 : (.code yX1_init cX1_init 1 none : Cond) ∈ GT := gt_m (List.mem_append_right _ (List.mem_append_right _ (List.mem_of_getElem? (i := 55) rfl))) (by first | rfl | decide +kernel)
theorem gw_177 : (.methodLink RX1 1 objectInit : Cond) ∈ GT := gt_m (List.mem_append_right _ (List.mem_append_right _ (List.mem_of_getElem? (i := 56) (by decide +kernel)))) (by first | rfl | decide +kernel)
theorem gw_178 : (.fieldLink RX1 7 "SnoopBusModel" "states" "[I" : Cond) ∈ GT := gt_m (List.mem_append_right _ (List.mem_append_right _ (List.mem_of_getElem? (i := 57) (by decide +kernel)))) (by first | rfl | decide +kernel)
theorem gw_179 : (.fieldLink RX1 13 "SnoopBusModel" "words" "[I" : Cond) ∈ GT := gt_m (List.mem_append_right _ (List.mem_append_right _ (List.mem_of_getElem? (i := 58) (by decide +kernel)))) (by first | rfl | decide +kernel)
theorem gw_180 : (.fieldLink RX1 16 "SnoopBusModel" "memory" "[I" : Cond) ∈ GT := gt_m (List.mem_append_right _ (List.mem_append_right _ (List.mem_of_getElem? (i := 59) (by decide +kernel)))) (by first | rfl | decide +kernel)
theorem gw_181 : (.fieldLink RX1 19 "SnoopBusModel" "counts" "[I" : Cond) ∈ GT := gt_m (List.mem_append_right _ (List.mem_append_right _ (List.mem_of_getElem? (i := 60) (by decide +kernel)))) (by first | rfl | decide +kernel)
theorem gw_182 : (.fieldLink RX1 22 "SnoopBusModel" "last" "[I" : Cond) ∈ GT := gt_m (List.mem_append_right _ (List.mem_append_right _ (List.mem_of_getElem? (i := 61) (by decide +kernel)))) (by first | rfl | decide +kernel)
theorem gw_183 : (.fieldLink RX1 25 "SnoopBusModel" "protocol" "I" : Cond) ∈ GT := gt_m (List.mem_append_right _ (List.mem_append_right _ (List.mem_of_getElem? (i := 62) (by decide +kernel)))) (by first | rfl | decide +kernel)
theorem gw_184 : (.fieldLink RX1 32 "SnoopBusModel" "all" "I" : Cond) ∈ GT := gt_m (List.mem_append_right _ (List.mem_append_right _ (List.mem_of_getElem? (i := 63) (by decide +kernel)))) (by first | rfl | decide +kernel)
theorem gw_185 : (.fieldLink RX1 35 "SnoopBusModel" "hits" "I" : Cond) ∈ GT := gt_m (List.mem_append_right _ (List.mem_append_right _ (List.mem_of_getElem? (i := 64) (by decide +kernel)))) (by first | rfl | decide +kernel)
theorem gw_186 : (.fieldLink RX1 38 "SnoopBusModel" "misses" "I" : Cond) ∈ GT := gt_m (List.mem_append_right _ (List.mem_append_right _ (List.mem_of_getElem? (i := 65) (by decide +kernel)))) (by first | rfl | decide +kernel)
theorem gw_187 : (.fieldLink RX1 29 "SnoopBusModel" "thrown" "I" : Cond) ∈ GT := gt_m (List.mem_append_right _ (List.mem_append_right _ (List.mem_of_getElem? (i := 66) (by decide +kernel)))) (by first | rfl | decide +kernel)
theorem gw_188 : (.methodLink RL 33 yX1_choose : Cond) ∈ GT := gt_m (List.mem_append_right _ (List.mem_append_right _ (List.mem_of_getElem? (i := 88) (by decide +kernel)))) (by first | rfl | decide +kernel)
theorem gw_189 : (.instanceMethod yX1_choose : Cond) ∈ GT := gt_m (List.mem_append_right _ (List.mem_append_right _ (List.mem_of_getElem? (i := 89) (by decide +kernel)))) (by first | rfl | decide +kernel)
theorem gw_190 : (.selects RX1 yX1_choose yX1_choose : Cond) ∈ GT := gt_m (List.mem_append_right _ (List.mem_append_right _ (List.mem_of_getElem? (i := 90) (by decide +kernel)))) (by first | rfl | decide +kernel)
theorem gw_191 : (.code yX1_choose cX1_choose 3 (some .boolean) : Cond) ∈ GT := gt_m (List.mem_append_right _ (List.mem_append_right _ (List.mem_of_getElem? (i := 91) rfl))) (by first | rfl | decide +kernel)
theorem gw_192 : (.methodLink RL 38 yX1_protocol : Cond) ∈ GT := gt_m (List.mem_append_right _ (List.mem_append_right _ (List.mem_of_getElem? (i := 92) (by decide +kernel)))) (by first | rfl | decide +kernel)
theorem gw_193 : (.instanceMethod yX1_protocol : Cond) ∈ GT := gt_m (List.mem_append_right _ (List.mem_append_right _ (List.mem_of_getElem? (i := 93) (by decide +kernel)))) (by first | rfl | decide +kernel)
theorem gw_194 : (.selects RX1 yX1_protocol yX1_protocol : Cond) ∈ GT := gt_m (List.mem_append_right _ (List.mem_append_right _ (List.mem_of_getElem? (i := 94) (by decide +kernel)))) (by first | rfl | decide +kernel)
theorem gw_195 : (.code yX1_protocol cX1_protocol 1 (some .int) : Cond) ∈ GT := gt_m (List.mem_append_right _ (List.mem_append_right _ (List.mem_of_getElem? (i := 95) rfl))) (by first | rfl | decide +kernel)
theorem gw_196 : (.methodLink RL 44 yX1_read : Cond) ∈ GT := gt_m (List.mem_append_right _ (List.mem_append_right _ (List.mem_of_getElem? (i := 96) (by decide +kernel)))) (by first | rfl | decide +kernel)
theorem gw_197 : (.instanceMethod yX1_read : Cond) ∈ GT := gt_m (List.mem_append_right _ (List.mem_append_right _ (List.mem_of_getElem? (i := 97) (by decide +kernel)))) (by first | rfl | decide +kernel)
theorem gw_198 : (.selects RX1 yX1_read yX1_read : Cond) ∈ GT := gt_m (List.mem_append_right _ (List.mem_append_right _ (List.mem_of_getElem? (i := 98) (by decide +kernel)))) (by first | rfl | decide +kernel)
theorem gw_199 : (.code yX1_read cX1_read 4 (some .int) : Cond) ∈ GT := gt_m (List.mem_append_right _ (List.mem_append_right _ (List.mem_of_getElem? (i := 99) rfl))) (by first | rfl | decide +kernel)
theorem gw_200 : (.methodLink RX1 70 yX1_within : Cond) ∈ GT := gt_m (List.mem_append_right _ (List.mem_append_right _ (List.mem_of_getElem? (i := 100) (by decide +kernel)))) (by first | rfl | decide +kernel)
theorem gw_201 : (.static yX1_within : Cond) ∈ GT := gt_m (List.mem_append_right _ (List.mem_append_right _ (List.mem_of_getElem? (i := 101) (by decide +kernel)))) (by first | rfl | decide +kernel)
theorem gw_202 : (.code yX1_within cX1_within 2 (some .boolean) : Cond) ∈ GT := gt_m (List.mem_append_right _ (List.mem_append_right _ (List.mem_of_getElem? (i := 102) rfl))) (by first | rfl | decide +kernel)
theorem gw_203 : (.methodLink RX1 73 yX1_hit : Cond) ∈ GT := gt_m (List.mem_append_right _ (List.mem_append_right _ (List.mem_of_getElem? (i := 103) (by decide +kernel)))) (by first | rfl | decide +kernel)
theorem gw_204 : (.instanceMethod yX1_hit : Cond) ∈ GT := gt_m (List.mem_append_right _ (List.mem_append_right _ (List.mem_of_getElem? (i := 105) (by decide +kernel)))) (by first | rfl | decide +kernel)
theorem gw_205 : (.code yX1_hit cX1_hit 4 (some .boolean) : Cond) ∈ GT := gt_m (List.mem_append_right _ (List.mem_append_right _ (List.mem_of_getElem? (i := 106) rfl))) (by first | rfl | decide +kernel)
theorem gw_206 : (.methodLink RX1 41 yX1_stateOf : Cond) ∈ GT := gt_m (List.mem_append_right _ (List.mem_append_right _ (List.mem_of_getElem? (i := 107) (by decide +kernel)))) (by first | rfl | decide +kernel)
theorem gw_207 : (.instanceMethod yX1_stateOf : Cond) ∈ GT := gt_m (List.mem_append_right _ (List.mem_append_right _ (List.mem_of_getElem? (i := 109) (by decide +kernel)))) (by first | rfl | decide +kernel)
theorem gw_208 : (.code yX1_stateOf cX1_stateOf 3 (some .int) : Cond) ∈ GT := gt_m (List.mem_append_right _ (List.mem_append_right _ (List.mem_of_getElem? (i := 110) rfl))) (by first | rfl | decide +kernel)
theorem gw_209 : (.methodLink RX1 76 yX1_load : Cond) ∈ GT := gt_m (List.mem_append_right _ (List.mem_append_right _ (List.mem_of_getElem? (i := 111) (by decide +kernel)))) (by first | rfl | decide +kernel)
theorem gw_210 : (.instanceMethod yX1_load : Cond) ∈ GT := gt_m (List.mem_append_right _ (List.mem_append_right _ (List.mem_of_getElem? (i := 113) (by decide +kernel)))) (by first | rfl | decide +kernel)
theorem gw_211 : (.code yX1_load cX1_load 9 none : Cond) ∈ GT := gt_m (List.mem_append_right _ (List.mem_append_right _ (List.mem_of_getElem? (i := 114) rfl))) (by first | rfl | decide +kernel)
theorem gw_212 : (.methodLink RX1 56 yX1_empty : Cond) ∈ GT := gt_m (List.mem_append_right _ (List.mem_append_right _ (List.mem_of_getElem? (i := 115) (by decide +kernel)))) (by first | rfl | decide +kernel)
theorem gw_213 : (.instanceMethod yX1_empty : Cond) ∈ GT := gt_m (List.mem_append_right _ (List.mem_append_right _ (List.mem_of_getElem? (i := 117) (by decide +kernel)))) (by first | rfl | decide +kernel)
theorem gw_214 : (.code yX1_empty cX1_empty 4 (some .boolean) : Cond) ∈ GT := gt_m (List.mem_append_right _ (List.mem_append_right _ (List.mem_of_getElem? (i := 118) rfl))) (by first | rfl | decide +kernel)
theorem gw_215 : (.methodLink RX1 45 yX1_transact : Cond) ∈ GT := gt_m (List.mem_append_right _ (List.mem_append_right _ (List.mem_of_getElem? (i := 119) (by decide +kernel)))) (by first | rfl | decide +kernel)
theorem gw_216 : (.instanceMethod yX1_transact : Cond) ∈ GT := gt_m (List.mem_append_right _ (List.mem_append_right _ (List.mem_of_getElem? (i := 121) (by decide +kernel)))) (by first | rfl | decide +kernel)
theorem gw_217 : (.code yX1_transact cX1_transact 5 none : Cond) ∈ GT := gt_m (List.mem_append_right _ (List.mem_append_right _ (List.mem_of_getElem? (i := 122) rfl))) (by first | rfl | decide +kernel)
theorem gw_218 : (.methodLink RX1 49 yX1_toMemory : Cond) ∈ GT := gt_m (List.mem_append_right _ (List.mem_append_right _ (List.mem_of_getElem? (i := 123) (by decide +kernel)))) (by first | rfl | decide +kernel)
theorem gw_219 : (.instanceMethod yX1_toMemory : Cond) ∈ GT := gt_m (List.mem_append_right _ (List.mem_append_right _ (List.mem_of_getElem? (i := 125) (by decide +kernel)))) (by first | rfl | decide +kernel)
theorem gw_220 : (.code yX1_toMemory cX1_toMemory 4 none : Cond) ∈ GT := gt_m (List.mem_append_right _ (List.mem_append_right _ (List.mem_of_getElem? (i := 126) rfl))) (by first | rfl | decide +kernel)
theorem gw_221 : (.methodLink RX1 53 yX1_setState : Cond) ∈ GT := gt_m (List.mem_append_right _ (List.mem_append_right _ (List.mem_of_getElem? (i := 127) (by decide +kernel)))) (by first | rfl | decide +kernel)
theorem gw_222 : (.instanceMethod yX1_setState : Cond) ∈ GT := gt_m (List.mem_append_right _ (List.mem_append_right _ (List.mem_of_getElem? (i := 129) (by decide +kernel)))) (by first | rfl | decide +kernel)
theorem gw_223 : (.code yX1_setState cX1_setState 4 none : Cond) ∈ GT := gt_m (List.mem_append_right _ (List.mem_append_right _ (List.mem_of_getElem? (i := 130) rfl))) (by first | rfl | decide +kernel)
theorem gw_224 : (.methodLink RX1 60 yX1_dirtyHolder : Cond) ∈ GT := gt_m (List.mem_append_right _ (List.mem_append_right _ (List.mem_of_getElem? (i := 131) (by decide +kernel)))) (by first | rfl | decide +kernel)
theorem gw_225 : (.instanceMethod yX1_dirtyHolder : Cond) ∈ GT := gt_m (List.mem_append_right _ (List.mem_append_right _ (List.mem_of_getElem? (i := 133) (by decide +kernel)))) (by first | rfl | decide +kernel)
theorem gw_226 : (.code yX1_dirtyHolder cX1_dirtyHolder 3 (some .int) : Cond) ∈ GT := gt_m (List.mem_append_right _ (List.mem_append_right _ (List.mem_of_getElem? (i := 134) rfl))) (by first | rfl | decide +kernel)
theorem gw_227 : (.methodLink RX1 64 yX1_emptyOthers : Cond) ∈ GT := gt_m (List.mem_append_right _ (List.mem_append_right _ (List.mem_of_getElem? (i := 135) (by decide +kernel)))) (by first | rfl | decide +kernel)
theorem gw_228 : (.instanceMethod yX1_emptyOthers : Cond) ∈ GT := gt_m (List.mem_append_right _ (List.mem_append_right _ (List.mem_of_getElem? (i := 137) (by decide +kernel)))) (by first | rfl | decide +kernel)
theorem gw_229 : (.code yX1_emptyOthers cX1_emptyOthers 4 none : Cond) ∈ GT := gt_m (List.mem_append_right _ (List.mem_append_right _ (List.mem_of_getElem? (i := 138) rfl))) (by first | rfl | decide +kernel)
theorem gw_230 : (.methodLink RX1 67 yX1_others : Cond) ∈ GT := gt_m (List.mem_append_right _ (List.mem_append_right _ (List.mem_of_getElem? (i := 139) (by decide +kernel)))) (by first | rfl | decide +kernel)
theorem gw_231 : (.instanceMethod yX1_others : Cond) ∈ GT := gt_m (List.mem_append_right _ (List.mem_append_right _ (List.mem_of_getElem? (i := 141) (by decide +kernel)))) (by first | rfl | decide +kernel)
theorem gw_232 : (.code yX1_others cX1_others 5 (some .int) : Cond) ∈ GT := gt_m (List.mem_append_right _ (List.mem_append_right _ (List.mem_of_getElem? (i := 142) rfl))) (by first | rfl | decide +kernel)
theorem gw_233 : (.methodLink RL 51 yX1_write : Cond) ∈ GT := gt_m (List.mem_append_right _ (List.mem_append_right _ (List.mem_of_getElem? (i := 143) (by decide +kernel)))) (by first | rfl | decide +kernel)
theorem gw_234 : (.instanceMethod yX1_write : Cond) ∈ GT := gt_m (List.mem_append_right _ (List.mem_append_right _ (List.mem_of_getElem? (i := 144) (by decide +kernel)))) (by first | rfl | decide +kernel)
theorem gw_235 : (.selects RX1 yX1_write yX1_write : Cond) ∈ GT := gt_m (List.mem_append_right _ (List.mem_append_right _ (List.mem_of_getElem? (i := 145) (by decide +kernel)))) (by first | rfl | decide +kernel)
theorem gw_236 : (.code yX1_write cX1_write 9 (some .int) : Cond) ∈ GT := gt_m (List.mem_append_right _ (List.mem_append_right _ (List.mem_of_getElem? (i := 146) rfl))) (by first | rfl | decide +kernel)
theorem gw_237 : (.methodLink RX1 79 yX1_invalidates : Cond) ∈ GT := gt_m (List.mem_append_right _ (List.mem_append_right _ (List.mem_of_getElem? (i := 147) (by decide +kernel)))) (by first | rfl | decide +kernel)
theorem gw_238 : (.instanceMethod yX1_invalidates : Cond) ∈ GT := gt_m (List.mem_append_right _ (List.mem_append_right _ (List.mem_of_getElem? (i := 149) (by decide +kernel)))) (by first | rfl | decide +kernel)
theorem gw_239 : (.code yX1_invalidates cX1_invalidates 1 (some .boolean) : Cond) ∈ GT := gt_m (List.mem_append_right _ (List.mem_append_right _ (List.mem_of_getElem? (i := 150) rfl))) (by first | rfl | decide +kernel)
theorem gw_240 : (.methodLink RL 54 yX1_evict : Cond) ∈ GT := gt_m (List.mem_append_right _ (List.mem_append_right _ (List.mem_of_getElem? (i := 151) (by decide +kernel)))) (by first | rfl | decide +kernel)
theorem gw_241 : (.instanceMethod yX1_evict : Cond) ∈ GT := gt_m (List.mem_append_right _ (List.mem_append_right _ (List.mem_of_getElem? (i := 152) (by decide +kernel)))) (by first | rfl | decide +kernel)
theorem gw_242 : (.selects RX1 yX1_evict yX1_evict : Cond) ∈ GT := gt_m (List.mem_append_right _ (List.mem_append_right _ (List.mem_of_getElem? (i := 153) (by decide +kernel)))) (by first | rfl | decide +kernel)
theorem gw_243 : (.code yX1_evict cX1_evict 3 (some .boolean) : Cond) ∈ GT := gt_m (List.mem_append_right _ (List.mem_append_right _ (List.mem_of_getElem? (i := 154) rfl))) (by first | rfl | decide +kernel)
theorem gw_244 : (.methodLink RL 58 yX1_flush : Cond) ∈ GT := gt_m (List.mem_append_right _ (List.mem_append_right _ (List.mem_of_getElem? (i := 155) (by decide +kernel)))) (by first | rfl | decide +kernel)
theorem gw_245 : (.instanceMethod yX1_flush : Cond) ∈ GT := gt_m (List.mem_append_right _ (List.mem_append_right _ (List.mem_of_getElem? (i := 156) (by decide +kernel)))) (by first | rfl | decide +kernel)
theorem gw_246 : (.selects RX1 yX1_flush yX1_flush : Cond) ∈ GT := gt_m (List.mem_append_right _ (List.mem_append_right _ (List.mem_of_getElem? (i := 157) (by decide +kernel)))) (by first | rfl | decide +kernel)
theorem gw_247 : (.code yX1_flush cX1_flush 6 (some .int) : Cond) ∈ GT := gt_m (List.mem_append_right _ (List.mem_append_right _ (List.mem_of_getElem? (i := 158) rfl))) (by first | rfl | decide +kernel)
theorem gw_248 : (.methodLink RL 62 yX1_state : Cond) ∈ GT := gt_m (List.mem_append_right _ (List.mem_append_right _ (List.mem_of_getElem? (i := 159) (by decide +kernel)))) (by first | rfl | decide +kernel)
theorem gw_249 : (.instanceMethod yX1_state : Cond) ∈ GT := gt_m (List.mem_append_right _ (List.mem_append_right _ (List.mem_of_getElem? (i := 160) (by decide +kernel)))) (by first | rfl | decide +kernel)
theorem gw_250 : (.selects RX1 yX1_state yX1_state : Cond) ∈ GT := gt_m (List.mem_append_right _ (List.mem_append_right _ (List.mem_of_getElem? (i := 161) (by decide +kernel)))) (by first | rfl | decide +kernel)
theorem gw_251 : (.code yX1_state cX1_state 3 (some .int) : Cond) ∈ GT := gt_m (List.mem_append_right _ (List.mem_append_right _ (List.mem_of_getElem? (i := 162) rfl))) (by first | rfl | decide +kernel)
theorem gw_252 : (.methodLink RL 66 yX1_cached : Cond) ∈ GT := gt_m (List.mem_append_right _ (List.mem_append_right _ (List.mem_of_getElem? (i := 163) (by decide +kernel)))) (by first | rfl | decide +kernel)
theorem gw_253 : (.instanceMethod yX1_cached : Cond) ∈ GT := gt_m (List.mem_append_right _ (List.mem_append_right _ (List.mem_of_getElem? (i := 164) (by decide +kernel)))) (by first | rfl | decide +kernel)
theorem gw_254 : (.selects RX1 yX1_cached yX1_cached : Cond) ∈ GT := gt_m (List.mem_append_right _ (List.mem_append_right _ (List.mem_of_getElem? (i := 165) (by decide +kernel)))) (by first | rfl | decide +kernel)
theorem gw_255 : (.code yX1_cached cX1_cached 3 (some .int) : Cond) ∈ GT := gt_m (List.mem_append_right _ (List.mem_append_right _ (List.mem_of_getElem? (i := 166) rfl))) (by first | rfl | decide +kernel)
theorem gw_256 : (.methodLink RL 71 yX1_memory : Cond) ∈ GT := gt_m (List.mem_append_right _ (List.mem_append_right _ (List.mem_of_getElem? (i := 167) (by decide +kernel)))) (by first | rfl | decide +kernel)
theorem gw_257 : (.instanceMethod yX1_memory : Cond) ∈ GT := gt_m (List.mem_append_right _ (List.mem_append_right _ (List.mem_of_getElem? (i := 168) (by decide +kernel)))) (by first | rfl | decide +kernel)
theorem gw_258 : (.selects RX1 yX1_memory yX1_memory : Cond) ∈ GT := gt_m (List.mem_append_right _ (List.mem_append_right _ (List.mem_of_getElem? (i := 169) (by decide +kernel)))) (by first | rfl | decide +kernel)
theorem gw_259 : (.code yX1_memory cX1_memory 2 (some .int) : Cond) ∈ GT := gt_m (List.mem_append_right _ (List.mem_append_right _ (List.mem_of_getElem? (i := 170) rfl))) (by first | rfl | decide +kernel)
theorem gw_260 : (.methodLink RL 75 yX1_count : Cond) ∈ GT := gt_m (List.mem_append_right _ (List.mem_append_right _ (List.mem_of_getElem? (i := 171) (by decide +kernel)))) (by first | rfl | decide +kernel)
theorem gw_261 : (.instanceMethod yX1_count : Cond) ∈ GT := gt_m (List.mem_append_right _ (List.mem_append_right _ (List.mem_of_getElem? (i := 172) (by decide +kernel)))) (by first | rfl | decide +kernel)
theorem gw_262 : (.selects RX1 yX1_count yX1_count : Cond) ∈ GT := gt_m (List.mem_append_right _ (List.mem_append_right _ (List.mem_of_getElem? (i := 173) (by decide +kernel)))) (by first | rfl | decide +kernel)
theorem gw_263 : (.code yX1_count cX1_count 2 (some .int) : Cond) ∈ GT := gt_m (List.mem_append_right _ (List.mem_append_right _ (List.mem_of_getElem? (i := 174) rfl))) (by first | rfl | decide +kernel)
theorem gw_264 : (.methodLink RL 79 yX1_hits : Cond) ∈ GT := gt_m (List.mem_append_right _ (List.mem_append_right _ (List.mem_of_getElem? (i := 175) (by decide +kernel)))) (by first | rfl | decide +kernel)
theorem gw_265 : (.instanceMethod yX1_hits : Cond) ∈ GT := gt_m (List.mem_append_right _ (List.mem_append_right _ (List.mem_of_getElem? (i := 176) (by decide +kernel)))) (by first | rfl | decide +kernel)
theorem gw_266 : (.selects RX1 yX1_hits yX1_hits : Cond) ∈ GT := gt_m (List.mem_append_right _ (List.mem_append_right _ (List.mem_of_getElem? (i := 177) (by decide +kernel)))) (by first | rfl | decide +kernel)
theorem gw_267 : (.code yX1_hits cX1_hits 1 (some .int) : Cond) ∈ GT := gt_m (List.mem_append_right _ (List.mem_append_right _ (List.mem_of_getElem? (i := 178) rfl))) (by first | rfl | decide +kernel)
theorem gw_268 : (.methodLink RL 83 yX1_misses : Cond) ∈ GT := gt_m (List.mem_append_right _ (List.mem_append_right _ (List.mem_of_getElem? (i := 179) (by decide +kernel)))) (by first | rfl | decide +kernel)
theorem gw_269 : (.instanceMethod yX1_misses : Cond) ∈ GT := gt_m (List.mem_append_right _ (List.mem_append_right _ (List.mem_of_getElem? (i := 180) (by decide +kernel)))) (by first | rfl | decide +kernel)
theorem gw_270 : (.selects RX1 yX1_misses yX1_misses : Cond) ∈ GT := gt_m (List.mem_append_right _ (List.mem_append_right _ (List.mem_of_getElem? (i := 181) (by decide +kernel)))) (by first | rfl | decide +kernel)
theorem gw_271 : (.code yX1_misses cX1_misses 1 (some .int) : Cond) ∈ GT := gt_m (List.mem_append_right _ (List.mem_append_right _ (List.mem_of_getElem? (i := 182) rfl))) (by first | rfl | decide +kernel)
theorem gw_272 : (.methodLink RL 87 yX1_latest : Cond) ∈ GT := gt_m (List.mem_append_right _ (List.mem_append_right _ (List.mem_of_getElem? (i := 183) (by decide +kernel)))) (by first | rfl | decide +kernel)
theorem gw_273 : (.instanceMethod yX1_latest : Cond) ∈ GT := gt_m (List.mem_append_right _ (List.mem_append_right _ (List.mem_of_getElem? (i := 184) (by decide +kernel)))) (by first | rfl | decide +kernel)
theorem gw_274 : (.selects RX1 yX1_latest yX1_latest : Cond) ∈ GT := gt_m (List.mem_append_right _ (List.mem_append_right _ (List.mem_of_getElem? (i := 185) (by decide +kernel)))) (by first | rfl | decide +kernel)
theorem gw_275 : (.code yX1_latest cX1_latest 2 (some .int) : Cond) ∈ GT := gt_m (List.mem_append_right _ (List.mem_append_right _ (List.mem_of_getElem? (i := 186) rfl))) (by first | rfl | decide +kernel)
theorem gw_276 : (.methodLink RL 45 yX1_thrown : Cond) ∈ GT := gt_m (List.mem_append_right _ (List.mem_append_right _ (List.mem_of_getElem? (i := 187) (by decide +kernel)))) (by first | rfl | decide +kernel)
theorem gw_277 : (.instanceMethod yX1_thrown : Cond) ∈ GT := gt_m (List.mem_append_right _ (List.mem_append_right _ (List.mem_of_getElem? (i := 188) (by decide +kernel)))) (by first | rfl | decide +kernel)
theorem gw_278 : (.selects RX1 yX1_thrown yX1_thrown : Cond) ∈ GT := gt_m (List.mem_append_right _ (List.mem_append_right _ (List.mem_of_getElem? (i := 189) (by decide +kernel)))) (by first | rfl | decide +kernel)
theorem gw_279 : (.code yX1_thrown cX1_thrown 1 (some .int) : Cond) ∈ GT := gt_m (List.mem_append_right _ (List.mem_append_right _ (List.mem_of_getElem? (i := 190) rfl))) (by first | rfl | decide +kernel)
theorem gw_280 : (.arrayClass .long : Cond) ∈ GT := gt_m (List.mem_append_right _ (List.mem_append_right _ (List.mem_of_getElem? (i := 191) (by decide +kernel)))) (by first | rfl | decide +kernel)
theorem gw_281 : (.selects RX0 yX0_startOver yX0_startOver : Cond) ∈ GT := gt_m (List.mem_append_left _ (List.mem_of_getElem? (i := 0) (by decide +kernel))) (by first | rfl | decide +kernel)
theorem gw_282 : (.selects RX0 yX0_emptyLine yX0_emptyLine : Cond) ∈ GT := gt_m (List.mem_append_left _ (List.mem_of_getElem? (i := 1) (by decide +kernel))) (by first | rfl | decide +kernel)
theorem gw_283 : (.selects RX0 yX0_transact yX0_transact : Cond) ∈ GT := gt_m (List.mem_append_left _ (List.mem_of_getElem? (i := 2) (by decide +kernel))) (by first | rfl | decide +kernel)
theorem gw_284 : (.selects RX0 yX0_copyToMemory yX0_copyToMemory : Cond) ∈ GT := gt_m (List.mem_append_left _ (List.mem_of_getElem? (i := 3) (by decide +kernel))) (by first | rfl | decide +kernel)
theorem gw_285 : (.selects RX0 yX0_holds yX0_holds : Cond) ∈ GT := gt_m (List.mem_append_left _ (List.mem_of_getElem? (i := 4) (by decide +kernel))) (by first | rfl | decide +kernel)
theorem gw_286 : (.selects RX0 yX0_bringIn yX0_bringIn : Cond) ∈ GT := gt_m (List.mem_append_left _ (List.mem_of_getElem? (i := 6) (by decide +kernel))) (by first | rfl | decide +kernel)
theorem gw_287 : (.selects RX0 yX0_load yX0_load : Cond) ∈ GT := gt_m (List.mem_append_left _ (List.mem_of_getElem? (i := 7) (by decide +kernel))) (by first | rfl | decide +kernel)
theorem gw_288 : (.selects RX0 yX0_fetchWords yX0_fetchWords : Cond) ∈ GT := gt_m (List.mem_append_left _ (List.mem_of_getElem? (i := 8) (by decide +kernel))) (by first | rfl | decide +kernel)
theorem gw_289 : (.selects RX0 yX0_dirtyLine yX0_dirtyLine : Cond) ∈ GT := gt_m (List.mem_append_left _ (List.mem_of_getElem? (i := 9) (by decide +kernel))) (by first | rfl | decide +kernel)
theorem gw_290 : (.selects RX0 yX0_dropOthers yX0_dropOthers : Cond) ∈ GT := gt_m (List.mem_append_left _ (List.mem_of_getElem? (i := 10) (by decide +kernel))) (by first | rfl | decide +kernel)
theorem gw_291 : (.selects RX0 yX0_shareWithOthers yX0_shareWithOthers : Cond) ∈ GT := gt_m (List.mem_append_left _ (List.mem_of_getElem? (i := 11) (by decide +kernel))) (by first | rfl | decide +kernel)
theorem gw_292 : (.selects RX0 yX0_yieldToReader yX0_yieldToReader : Cond) ∈ GT := gt_m (List.mem_append_left _ (List.mem_of_getElem? (i := 12) (by decide +kernel))) (by first | rfl | decide +kernel)
theorem gw_293 : (.selects RX0 yX0_updates yX0_updates : Cond) ∈ GT := gt_m (List.mem_append_left _ (List.mem_of_getElem? (i := 13) (by decide +kernel))) (by first | rfl | decide +kernel)
theorem gw_294 : (.selects RX0 yX0_tellOthers yX0_tellOthers : Cond) ∈ GT := gt_m (List.mem_append_left _ (List.mem_of_getElem? (i := 14) (by decide +kernel))) (by first | rfl | decide +kernel)
theorem gw_295 : (.selects RX0 yX0_updateOthers yX0_updateOthers : Cond) ∈ GT := gt_m (List.mem_append_left _ (List.mem_of_getElem? (i := 15) (by decide +kernel))) (by first | rfl | decide +kernel)
theorem gw_296 : (.selects RX0 yX0_claim yX0_claim : Cond) ∈ GT := gt_m (List.mem_append_left _ (List.mem_of_getElem? (i := 16) (by decide +kernel))) (by first | rfl | decide +kernel)
theorem gw_297 : (.selects RX1 yX1_hit yX1_hit : Cond) ∈ GT := gt_m (List.mem_append_left _ (List.mem_of_getElem? (i := 17) (by decide +kernel))) (by first | rfl | decide +kernel)
theorem gw_298 : (.selects RX1 yX1_stateOf yX1_stateOf : Cond) ∈ GT := gt_m (List.mem_append_left _ (List.mem_of_getElem? (i := 18) (by decide +kernel))) (by first | rfl | decide +kernel)
theorem gw_299 : (.selects RX1 yX1_load yX1_load : Cond) ∈ GT := gt_m (List.mem_append_left _ (List.mem_of_getElem? (i := 19) (by decide +kernel))) (by first | rfl | decide +kernel)
theorem gw_300 : (.selects RX1 yX1_empty yX1_empty : Cond) ∈ GT := gt_m (List.mem_append_left _ (List.mem_of_getElem? (i := 20) (by decide +kernel))) (by first | rfl | decide +kernel)
theorem gw_301 : (.selects RX1 yX1_transact yX1_transact : Cond) ∈ GT := gt_m (List.mem_append_left _ (List.mem_of_getElem? (i := 21) (by decide +kernel))) (by first | rfl | decide +kernel)
theorem gw_302 : (.selects RX1 yX1_toMemory yX1_toMemory : Cond) ∈ GT := gt_m (List.mem_append_left _ (List.mem_of_getElem? (i := 22) (by decide +kernel))) (by first | rfl | decide +kernel)
theorem gw_303 : (.selects RX1 yX1_setState yX1_setState : Cond) ∈ GT := gt_m (List.mem_append_left _ (List.mem_of_getElem? (i := 23) (by decide +kernel))) (by first | rfl | decide +kernel)
theorem gw_304 : (.selects RX1 yX1_dirtyHolder yX1_dirtyHolder : Cond) ∈ GT := gt_m (List.mem_append_left _ (List.mem_of_getElem? (i := 24) (by decide +kernel))) (by first | rfl | decide +kernel)
theorem gw_305 : (.selects RX1 yX1_emptyOthers yX1_emptyOthers : Cond) ∈ GT := gt_m (List.mem_append_left _ (List.mem_of_getElem? (i := 25) (by decide +kernel))) (by first | rfl | decide +kernel)
theorem gw_306 : (.selects RX1 yX1_others yX1_others : Cond) ∈ GT := gt_m (List.mem_append_left _ (List.mem_of_getElem? (i := 26) (by decide +kernel))) (by first | rfl | decide +kernel)
theorem gw_307 : (.selects RX1 yX1_invalidates yX1_invalidates : Cond) ∈ GT := gt_m (List.mem_append_left _ (List.mem_of_getElem? (i := 27) (by decide +kernel))) (by first | rfl | decide +kernel)
theorem dJ7_fill_0 : decode cJ7_fill 0 = .ok (.iconst 0, 1) := by decide +kernel
theorem dJ7_fill_1 : decode cJ7_fill 1 = .ok (.istore_n 2, 1) := by decide +kernel
theorem dJ7_fill_2 : decode cJ7_fill 2 = .ok (.aload_n 0, 1) := by decide +kernel
theorem dJ7_fill_3 : decode cJ7_fill 3 = .ok (.arraylength, 1) := by decide +kernel
theorem dJ7_fill_4 : decode cJ7_fill 4 = .ok (.istore_n 3, 1) := by decide +kernel
theorem dJ7_fill_5 : decode cJ7_fill 5 = .ok (.iload_n 2, 1) := by decide +kernel
theorem dJ7_fill_6 : decode cJ7_fill 6 = .ok (.iload_n 3, 1) := by decide +kernel
theorem dJ7_fill_7 : decode cJ7_fill 7 = .ok (.if_icmp .ge 13, 3) := by decide +kernel
theorem dJ7_fill_10 : decode cJ7_fill 10 = .ok (.aload_n 0, 1) := by decide +kernel
theorem dJ7_fill_11 : decode cJ7_fill 11 = .ok (.iload_n 2, 1) := by decide +kernel
theorem dJ7_fill_12 : decode cJ7_fill 12 = .ok (.iload_n 1, 1) := by decide +kernel
theorem dJ7_fill_13 : decode cJ7_fill 13 = .ok (.iastore, 1) := by decide +kernel
theorem dJ7_fill_14 : decode cJ7_fill 14 = .ok (.iinc 2 1, 3) := by decide +kernel
theorem dJ7_fill_17 : decode cJ7_fill 17 = .ok (.goto (-12), 3) := by decide +kernel
theorem dJ7_fill_20 : decode cJ7_fill 20 = .ok (.return_, 1) := by decide +kernel
end
section
/-! what a state is: arrays by their number, scalars by theirs; the class's and the reference's methods as functions of it -/
abbrev SX : Type := (Nat → Nat → Int32) × (Nat → Int32)
def zA (S : SX) (k : Nat) (f : Nat → Int32) : SX := (fun j => if j = k then f else S.1 j, S.2)
def zF (S : SX) (k : Nat) (v : Int32) : SX := (S.1, fun j => if j = k then v else S.2 j)
theorem zA_s (S : SX) (k : Nat) (f : Nat → Int32) : (zA S k f).1 k = f := by simp [zA]
theorem zA_n {S : SX} {k j : Nat} {f : Nat → Int32} (h : j ≠ k) : (zA S k f).1 j = S.1 j := by simp [zA, h]
theorem zA_2 (S : SX) (k : Nat) (f : Nat → Int32) : (zA S k f).2 = S.2 := rfl
theorem zF_1 (S : SX) (k : Nat) (v : Int32) : (zF S k v).1 = S.1 := rfl
theorem zF_s (S : SX) (k : Nat) (v : Int32) : (zF S k v).2 k = v := by simp [zF]
theorem zF_n {S : SX} {k j : Nat} {v : Int32} (h : j ≠ k) : (zF S k v).2 j = S.2 j := by simp [zF, h]
theorem zA_zA (S : SX) (k : Nat) (f g : Nat → Int32) : zA (zA S k f) k g = zA S k g := by
  unfold zA
  congr 1
  funext j
  by_cases h : j = k <;> simp [h]
theorem zA_id (S : SX) (k : Nat) : zA S k (S.1 k) = S := by
  unfold zA
  refine Prod.ext (funext fun j => ?_) rfl
  by_cases h : j = k <;> simp [h]
def bI (b : Bool) : Int32 := if b = true then 1 else 0
theorem bI_t : bI true = 1 := rfl
theorem bI_f : bI false = 0 := rfl
theorem bI_z {b : Bool} : bI b = 0 ↔ b = false := by cases b <;> decide
theorem bI_n {b : Bool} : ¬ bI b = 0 ↔ b = true := by cases b <;> decide
theorem bI_nar (b : Bool) : narrow .boolean (.int (bI b)) = .int (bI b) := by cases b <;> decide
def inR (x n : Int32) : Bool := decide (¬ x < 0) && decide (¬ n ≤ x)
def inW (x n : Int32) : Bool := decide (¬ x < 0) && decide (¬ n < x)
def shF : Nat → (Nat → Int32) → (Nat → Int32)
  | 0, f => f
  | n + 1, f => shF n (upd f (n + 1) (f n))
-- the class: arrays 0 lineStates, 1 lineBlocks, 2 lineWords, 3 memoryWords, 4 kindCounts, 5 recent; scalars 0 chosen, 1 transactions, 2 hitCount, 3 missCount
def xHo (S : SX) (p b : Nat) : Bool := decide (¬ S.1 0 (2 * p + b % 2) = 0) && decide (S.1 1 (2 * p + b % 2) = nI b)
def xDi (v : Int32) : Bool := decide (v = 3) || decide (v = 4)
def xEl (v : Int32) : Bool := decide (v = 1) || decide (v = 3)
def xTr (S : SX) (k p b : Nat) : SX :=
  zF (zA (zA S 5 (upd (shF 7 (S.1 5)) 0 (nI (64 * k + 16 * p + b)))) 4 (upd (S.1 4) k (S.1 4 k + 1))) 1 (S.2 1 + 1)
def xCp (S : SX) (i : Nat) : SX := zA S 3 (va_cpy (S.1 2) (S.1 3) (2 * i) (2 * (S.1 1 i).toNatClampNeg) 2)
def xEmT (S : SX) (i : Nat) : SX := if xDi (S.1 0 i) = true then xCp (xTr S 4 (i / 2) (S.1 1 i).toNatClampNeg) i else S
def xEm (S : SX) (i : Nat) : SX := zA (xEmT S i) 0 (upd ((xEmT S i).1 0) i 0)
def xDlF (S : SX) (b : Nat) : Nat → Nat → Int32
  | 0, _ => -1
  | n + 1, k => if (xHo S k b && xDi (S.1 0 (2 * k + b % 2))) = true then nI (2 * k + b % 2) else xDlF S b n (k + 1)
def xDl (S : SX) (b : Nat) : Int32 := xDlF S b 4 0
def xFe (S : SX) (i b : Nat) : SX :=
  if xDl S b = -1 then zA S 2 (va_cpy (S.1 3) (S.1 2) (2 * b) (2 * i) 2)
  else zA S 2 (va_cpy (S.1 2) (S.1 2) (2 * (xDl S b).toNatClampNeg) (2 * i) 2)
def xDr1 (p b k : Nat) (S : SX) : SX := if (!decide (k = p) && xHo S k b) = true then zA S 0 (upd (S.1 0) (2 * k + b % 2) 0) else S
def xDrF (p b : Nat) : Nat → Nat → SX → SX
  | 0, _, S => S
  | n + 1, k, S => xDrF p b n (k + 1) (xDr1 p b k S)
def xYi (S : SX) (i : Nat) : SX :=
  if (xDi (S.1 0 i) && decide (¬ S.2 0 < 2)) = true then zA S 0 (upd (S.1 0) i 3)
  else if xDi (S.1 0 i) = true then zA (xCp S i) 0 (upd ((xCp S i).1 0) i 1)
  else zA S 0 (upd (S.1 0) i 1)
def xSh1 (p b k : Nat) (S : SX × Bool) : SX × Bool := if (!decide (k = p) && xHo S.1 k b) = true then (xYi S.1 (2 * k + b % 2), false) else S
def xShF (p b : Nat) : Nat → Nat → SX × Bool → SX × Bool
  | 0, _, S => S
  | n + 1, k, S => xShF p b n (k + 1) (xSh1 p b k S)
def xSh (S : SX) (p b : Nat) : SX × Int32 :=
  ((xShF p b 4 0 (S, true)).1, if ((xShF p b 4 0 (S, true)).2 && decide (¬ (xShF p b 4 0 (S, true)).1.2 0 = 0)) = true then 2 else 1)
def xLoT (S : SX) (p b k : Nat) : SX := xFe (xTr (xEm S (2 * p + b % 2)) k p b) (2 * p + b % 2) b
def xLoR (T : SX) (p b k : Nat) : SX × Int32 := if k = 1 then (xDrF p b 4 0 T, 4) else xSh T p b
def xLoE (r : SX × Int32) (i b : Nat) : SX := zA (zA r.1 1 (upd (r.1.1 1) i (nI b))) 0 (upd (r.1.1 0) i r.2)
def xLo (S : SX) (p b k : Nat) : SX := xLoE (xLoR (xLoT S p b k) p b k) (2 * p + b % 2) b
def xBr (S : SX) (p b k : Nat) : SX := if xHo S p b = true then zF S 2 (S.2 2 + 1) else xLo (zF S 3 (S.2 3 + 1)) p b k
def xClT (S : SX) (p b : Nat) : SX := if xEl (S.1 0 (2 * p + b % 2)) = true then xDrF p b 4 0 (xTr S 2 p b) else S
def xCl (S : SX) (p b : Nat) : SX := zA (xClT S p b) 0 (upd ((xClT S p b).1 0) (2 * p + b % 2) 4)
def xUp1 (p a : Nat) (w : Int32) (k : Nat) (S : SX × Bool) : SX × Bool :=
  if (!decide (k = p) && xHo S.1 k (a / 2)) = true then
    (zA (zA S.1 2 (upd (S.1.1 2) (2 * (2 * k + a / 2 % 2) + a % 2) w)) 0 (upd (S.1.1 0) (2 * k + a / 2 % 2) 1), true) else S
def xUpF (p a : Nat) (w : Int32) : Nat → Nat → SX × Bool → SX × Bool
  | 0, _, S => S
  | n + 1, k, S => xUpF p a w n (k + 1) (xUp1 p a w k S)
def xTeR (S : SX) (p a : Nat) (w : Int32) : SX × Bool := if xEl (S.1 0 (2 * p + a / 2 % 2)) = true then xUpF p a w 4 0 (xTr S 3 p (a / 2), false) else (S, false)
def xTe (S : SX) (p a : Nat) (w : Int32) : SX := zA (xTeR S p a w).1 0 (upd ((xTeR S p a w).1.1 0) (2 * p + a / 2 % 2) (if (xTeR S p a w).2 = true then 3 else 4))
def xWi (p a : Nat) : Nat := 2 * (2 * p + a / 2 % 2) + a % 2
def xWrB (S : SX) (p a : Nat) : SX := xBr S p (a / 2) (if S.2 0 = 3 then 0 else 1)
def xWrT (S : SX) (p a : Nat) (w : Int32) : SX := if (xWrB S p a).2 0 = 3 then xTe (xWrB S p a) p a w else xCl (xWrB S p a) p (a / 2)
def xWr (S : SX) (p a : Nat) (w : Int32) : SX := zA (xWrT S p a w) 2 (upd ((xWrT S p a w).1 2) (xWi p a) w)
def xFlF : Nat → Nat → SX × Nat → SX × Nat
  | 0, _, S => S
  | n + 1, k, S => xFlF n (k + 1) (xEm S.1 k, if xDi (S.1.1 0 k) = true then S.2 + 1 else S.2)
def xSo (S : SX) (v : Int32) : SX :=
  zF (zF (zF (zF (zA (zA (zA (zA S 0 (fun _ => 0)) 3 (fun _ => 0)) 4 (fun _ => 0)) 5 (fun _ => -1)) 0 v) 1 0) 2 0) 3 0
def okB (S : SX) : Prop := ∀ i, i < 8 → ∃ b, b < 16 ∧ S.1 1 i = nI b
-- the reference: arrays 0 states, 1 words, 2 memory, 3 counts, 4 last; scalars 0 protocol, 1 all, 2 hits, 3 misses, 4 thrown
def mSe (S : SX) (p b : Nat) (v : Int32) : SX := zA S 0 (upd (S.1 0) (16 * p + b) v)
def mTr (S : SX) (k p b : Nat) : SX :=
  zF (zA (zA S 3 (upd (S.1 3) k (S.1 3 k + 1))) 4 (upd (shF 7 (S.1 4)) 0 (nI (64 * k + 16 * p + b)))) 1 (S.2 1 + 1)
def mTm (S : SX) (p b : Nat) : SX := zA S 2 (upd (upd (S.1 2) (2 * b) (S.1 1 (32 * p + 2 * b))) (2 * b + 1) (S.1 1 (32 * p + 2 * b + 1)))
def mDi (v : Int32) : Bool := decide (¬ v < 3)
def mEmT (S : SX) (p b : Nat) : SX := if mDi (S.1 0 (16 * p + b)) = true then mTm (mTr S 4 p b) p b else S
def mEm (S : SX) (p b : Nat) : SX := mSe (mEmT S p b) p b 0
def mOtF (S : SX) (p b : Nat) : Nat → Nat → Nat → Nat
  | 0, _, c => c
  | n + 1, k, c => mOtF S p b n (k + 1) (if (!decide (k = p) && decide (¬ S.1 0 (16 * k + b) ≤ 0)) = true then c + 1 else c)
def mDhF (S : SX) (b : Nat) : Nat → Nat → Int32
  | 0, _ => -1
  | n + 1, k => if mDi (S.1 0 (16 * k + b)) = true then nI k else mDhF S b n (k + 1)
def mEoF (p b : Nat) : Nat → Nat → SX → SX
  | 0, _, S => S
  | n + 1, k, S => mEoF p b n (k + 1) (if k = p then S else mSe S k b 0)
def mEv1 (p c : Nat) (S : SX) : SX := if S.1 0 (16 * p + c) ≤ 0 then S else mEm S p c
def mEvF (p : Nat) : Nat → Nat → SX → SX
  | 0, _, S => S
  | n + 1, c, S => mEvF p n (c + 2) (mEv1 p c S)
def mCw1 (p b : Nat) (f : Int32) (k : Nat) (S : SX) : SX :=
  zA S 1 (upd (S.1 1) (32 * p + (2 * b + k)) (if f < 0 then S.1 2 (2 * b + k) else S.1 1 (32 * f.toNatClampNeg + (2 * b + k))))
def mCw (p b : Nat) (f : Int32) (S : SX) : SX := mCw1 p b f 1 (mCw1 p b f 0 S)
def mRl1 (p b k : Nat) (S : SX) : SX :=
  if k = p then S else if S.1 0 (16 * k + b) = 0 then S
  else if ¬ 2 ≤ S.2 0 then mSe S k b 1
  else if S.1 0 (16 * k + b) = 4 then mSe S k b 3
  else if S.1 0 (16 * k + b) = 2 then mSe S k b 1 else S
def mRlF (p b : Nat) : Nat → Nat → SX → SX
  | 0, _, S => S
  | n + 1, k, S => mRlF p b n (k + 1) (mRl1 p b k S)
def mLoT (S : SX) (p b k : Nat) : SX := mTr (mEvF p 8 (b % 2) S) k p b
def mLoU (T : SX) (p b : Nat) : SX := mCw p b (mDhF T b 4 0) T
def mLoM (f : Int32) (U : SX) (b : Nat) : SX := if (decide (¬ 2 ≤ U.2 0) && decide (¬ f < 0)) = true then mTm U f.toNatClampNeg b else U
def mLoE (al : Bool) (V : SX) (p b : Nat) : SX := mSe V p b (if (decide (¬ V.2 0 ≤ 0) && al) = true then 2 else 1)
def mLo (S : SX) (p b k : Nat) : SX :=
  if k = 1 then mSe (mEoF p b 4 0 (mLoU (mLoT S p b k) p b)) p b 4
  else mLoE (decide (mOtF (mLoU (mLoT S p b k) p b) p b 4 0 0 = 0)) (mRlF p b 4 0 (mLoM (mDhF (mLoT S p b k) b 4 0) (mLoU (mLoT S p b k) p b) b)) p b
def mHo (S : SX) (p b : Nat) : Bool := decide (¬ S.1 0 (16 * p + b) ≤ 0)
def mHi (S : SX) (p b : Nat) : SX := if mHo S p b = true then zF S 2 (S.2 2 + 1) else zF S 3 (S.2 3 + 1)
def mUp1 (p a : Nat) (w : Int32) (k : Nat) (S : SX) : SX :=
  if k = p then S else if S.1 0 (16 * k + a / 2) = 0 then S else mSe (zA S 1 (upd (S.1 1) (32 * k + a) w)) k (a / 2) 1
def mUpF (p a : Nat) (w : Int32) : Nat → Nat → SX → SX
  | 0, _, S => S
  | n + 1, k, S => mUpF p a w n (k + 1) (mUp1 p a w k S)
def mRd (S : SX) (p a : Nat) : SX := if mHo S p (a / 2) = true then mHi S p (a / 2) else mLo (mHi S p (a / 2)) p (a / 2) 0
def mWrB (S : SX) (p a : Nat) : SX := if mHo S p (a / 2) = true then mHi S p (a / 2) else mLo (mHi S p (a / 2)) p (a / 2) (if 3 ≤ (mHi S p (a / 2)).2 0 then 0 else 1)
def mWrE (S : SX) (p a : Nat) (w : Int32) (due : Int32) : SX := zA (mSe S p (a / 2) due) 1 (upd (S.1 1) (32 * p + a) w)
def mWrT (T : SX) (p a : Nat) (w : Int32) : SX :=
  if xEl (T.1 0 (16 * p + a / 2)) = true then
    if 3 ≤ T.2 0 then mWrE (mUpF p a w 4 0 (mTr T 3 p (a / 2))) p a w (if 0 < mOtF (mTr T 3 p (a / 2)) p (a / 2) 4 0 0 then 3 else 4)
    else mWrE (mEoF p (a / 2) 4 0 (mTr T 2 p (a / 2))) p a w 4
  else mWrE T p a w 4
def mWr (S : SX) (p a : Nat) (w : Int32) : SX := mWrT (mWrB S p a) p a w
def mFl1 (p b : Nat) (S : SX × Nat) : SX × Nat := if S.1.1 0 (16 * p + b) ≤ 0 then S else (mEm S.1 p b, if mDi (S.1.1 0 (16 * p + b)) = true then S.2 + 1 else S.2)
def mFlB (p : Nat) : Nat → Nat → SX × Nat → SX × Nat
  | 0, _, S => S
  | n + 1, b, S => mFlB p n (b + 2) (mFl1 p b S)
def mFlL (p : Nat) (S : SX × Nat) : SX × Nat := mFlB p 8 1 (mFlB p 8 0 S)
def mFlP : Nat → Nat → SX × Nat → SX × Nat
  | 0, _, S => S
  | n + 1, p, S => mFlP n (p + 1) (mFlL p S)
def mCh (S : SX) (v : Int32) : SX := zF (zF (zF (zF (zA (zA (zA S 0 (fun _ => 0)) 2 (fun _ => 0)) 3 (fun _ => 0)) 0 v) 1 0) 2 0) 3 0
-- public answers by their Int32 arguments
def xStV (S : SX) (x y : Int32) : Int32 := if (inR x 4 && inR y 16) = true then (if xHo S x.toNatClampNeg y.toNatClampNeg = true then S.1 0 (2 * x.toNatClampNeg + y.toNatClampNeg % 2) else 0) else -1
def xCaV (S : SX) (x y : Int32) : Int32 := if (inR x 4 && inR y 32) = true then (if xHo S x.toNatClampNeg (y.toNatClampNeg / 2) = true then S.1 2 (2 * (2 * x.toNatClampNeg + y.toNatClampNeg / 2 % 2) + y.toNatClampNeg % 2) else 0) else 0
def xMeV (S : SX) (x : Int32) : Int32 := if inR x 32 = true then S.1 3 x.toNatClampNeg else 0
def xCoV (S : SX) (x : Int32) : Int32 := if inR x 5 = true then S.1 4 x.toNatClampNeg else -1
def xLaV (S : SX) (x : Int32) : Int32 := if inR x 8 = true then S.1 5 x.toNatClampNeg else -1
theorem inR_of {x : Int32} {n : Nat} (hn : n < 2 ^ 31) (h : inR x (nI n) = true) : ∃ j, j < n ∧ x = nI j := by
  simp only [inR, Bool.and_eq_true, decide_eq_true_eq] at h
  rcases pk_ix x hn with h1 | h1 | h1
  · exact absurd h1 h.1
  · exact absurd h1 h.2
  · exact h1
theorem inR_of2 {x : Int32} {n : Nat} (hn : n < 2 ^ 31) (h1 : ¬ x < 0) (h2 : ¬ nI n ≤ x) : ∃ j, j < n ∧ x = nI j :=
  inR_of hn (by simp only [inR, Bool.and_eq_true, decide_eq_true_eq]; exact ⟨h1, h2⟩)
theorem inR_t {j n : Nat} (h : j < n) (hn : n < 2 ^ 31) : inR (nI j) (nI n) = true := by
  simp only [inR, Bool.and_eq_true, decide_eq_true_eq]
  exact ⟨nI_pos (Nat.lt_trans h hn), nI_ge h hn⟩
theorem xYi_1 (S : SX) (i : Nat) : (xYi S i).1 1 = S.1 1 := by
  unfold xYi
  split
  · rfl
  · split <;> rfl
theorem xEm_1 (S : SX) (i : Nat) : (xEm S i).1 1 = S.1 1 := by
  unfold xEm xEmT
  split <;> rfl
theorem xFe_1 (S : SX) (i b : Nat) : (xFe S i b).1 1 = S.1 1 := by
  unfold xFe
  split <;> rfl
theorem xLoT_1 (S : SX) (p b k : Nat) : (xLoT S p b k).1 1 = S.1 1 := by
  unfold xLoT
  rw [xFe_1]
  exact xEm_1 S _
theorem xDlF_nat {S : SX} {b : Nat} (hb : b < 16) : ∀ n k : Nat, n + k ≤ 4 → ¬ xDlF S b n k = -1 → ∃ c, c < 8 ∧ xDlF S b n k = nI c
  | 0, _, _, h => absurd rfl h
  | n + 1, k, hk, h => by
    unfold xDlF at h ⊢
    split
    · exact ⟨2 * k + b % 2, by omega, rfl⟩
    · rename_i h2
      rw [if_neg h2] at h
      exact xDlF_nat hb n (k + 1) (by omega) h
theorem xDl_nat {S : SX} {b : Nat} (hb : b < 16) (h : ¬ xDl S b = -1) : ∃ c, c < 8 ∧ xDl S b = nI c := xDlF_nat hb 4 0 (by omega) h
-- the reference's public answers
def mStV (S : SX) (x y : Int32) : Int32 := if (inW x 3 && inW y 15) = true then S.1 0 (16 * x.toNatClampNeg + y.toNatClampNeg) else -1
def mCaV (S : SX) (x y : Int32) : Int32 := if (inW x 3 && inW y 31) = true then (if S.1 0 (16 * x.toNatClampNeg + y.toNatClampNeg / 2) = 0 then 0 else S.1 1 (32 * x.toNatClampNeg + y.toNatClampNeg)) else 0
def mMeV (S : SX) (x : Int32) : Int32 := if inW x 31 = true then S.1 2 x.toNatClampNeg else 0
def mCoV (S : SX) (x : Int32) : Int32 := if inW x 4 = true then S.1 3 x.toNatClampNeg else -1
def mLaV (S : SX) (x : Int32) : Int32 := if inW x 7 = true then (if S.2 1 ≤ x then -1 else S.1 4 x.toNatClampNeg) else -1
theorem inW_R {x : Int32} {n : Nat} (hn : n + 1 < 2 ^ 31) : inW x (nI n) = inR x (nI (n + 1)) := by
  rcases pk_ix x hn with h | h | ⟨j, hj, rfl⟩
  · simp [inW, inR, h]
  · have h2 : nI n < x := by
      rw [Int32.lt_iff_toInt_lt, nI_toInt (by omega)]
      rw [Int32.le_iff_toInt_le, nI_toInt hn] at h
      omega
    simp [inW, inR, h, h2]
  · have h1 : ¬ nI j < 0 := nI_pos (by omega)
    have h2 : ¬ nI n < nI j := nI_nlt (by omega) (by omega)
    have h3 : ¬ nI (n + 1) ≤ nI j := nI_ge hj hn
    simp [inW, inR, h1, h2, h3]
theorem inW_of {x : Int32} {n : Nat} (hn : n + 1 < 2 ^ 31) (h : inW x (nI n) = true) : ∃ j, j < n + 1 ∧ x = nI j := inR_of hn (by rw [← inW_R hn]; exact h)
theorem inW_t {j n : Nat} (h : j < n + 1) (hn : n + 1 < 2 ^ 31) : inW (nI j) (nI n) = true := by rw [inW_R hn]; exact inR_t h hn
theorem mDhF_nat {S : SX} {b : Nat} : ∀ n k : Nat, n + k ≤ 4 → mDhF S b n k = -1 ∨ ∃ c, c < 4 ∧ mDhF S b n k = nI c
  | 0, _, _ => Or.inl rfl
  | n + 1, k, hk => by
    unfold mDhF
    split
    · exact Or.inr ⟨k, by omega, rfl⟩
    · exact mDhF_nat n (k + 1) (by omega)
theorem mOtF_le {S : SX} {p b : Nat} : ∀ n k c : Nat, mOtF S p b n k c ≤ n + c
  | 0, _, _ => by simp [mOtF]
  | n + 1, k, c => by
    unfold mOtF
    split
    · exact Nat.le_trans (mOtF_le n (k + 1) (c + 1)) (by omega)
    · exact Nat.le_trans (mOtF_le n (k + 1) c) (by omega)
end
section
/-! rows of my own over the kit's: a top of another form; static methods without a world -/
def rmD (d : Nat) : Room := { frames := d, cells := 0, slots := 0, locals := 40 * d }
theorem lw_gin {w : Cond} {ws : List Cond} (h : GoodIn GT ws) (hm : w ∈ GT) : GoodIn GT (w :: ws) := fun v hv => by
  rcases List.mem_cons.mp hv with e | h2
  · rw [e]
    exact ⟨hm, good_of_word (List.mem_filter.mp hm).2⟩
  · exact h v h2
theorem lw_self : GoodIn GT GT := fun w h => ⟨h, good_of_word (List.mem_filter.mp h).2⟩
theorem lw_inc (k c : Nat) : nI k + Int32.ofInt c = nI (k + c) := by
  have h : Int32.ofInt c = nI c := by
    unfold nI
    rw [← Int32.toBitVec_inj]
    simp
  rw [h, nI_add]
theorem arr_congr {cA : ClassId} {n : Nat} {f g : Nat → Int32} (h : ∀ j, j < n → f j = g j) : vp_cell cA (n, .inl f) = vp_cell cA (n, .inl g) := by
  rw [vp_cell_i, vp_cell_i]
  unfold arrV
  congr 2
  funext j
  exact congrArg Value.int (h j.val j.isLt)
section RowsA
variable {p : Program} {l : Launch} {e : Env} {R : Room} {s : State} {m : MethodId} {args : Array Value} {below : List Frame} {meth : Method} {c : Code} {H : Heap} {locs : List Loc} {cells slots : Nat} {Q : State → Prop}
variable {cc : ByteArray} {pc : Nat} {ls : Array Slot} {rest : List Value} {D : va_G} {A : Nat → Prop} {H0 : Heap} {o : Nat → Nat} {cA : ClassId} {S : SX}
theorem lw_top {x y : Int32} (h : x = y) (k : W p l e R s m args below meth c H locs cells slots Q (F0 m pc ls (.int y :: rest))) : W p l e R s m args below meth c H locs cells slots Q (F0 m pc ls (.int x :: rest)) := h ▸ k
def sQ (r1 : Int32) : Array Value → State → Outcome → State → Prop := va_Qi (fun (r : Int32) (_ : Unit) => r = r1) (fun _ _ => True) (fun _ => False)
def sM (l : Launch) (y : MethodName) (code : ByteArray) (maxL : Nat) (ret : Option FieldType) (d : Nat) (As : List Value) (r1 : Int32) : Prop :=
  Met l y (.code y code maxL ret :: GT) (rmD d) (va_Pc As (fun _ => True)) (sQ r1) 0 0 (fun _ => False)
theorem s_met {y : MethodName} {code : ByteArray} {maxL d : Nat} {ret : Option FieldType} {As : List Value} {r1 : Int32} {own : String} (hy : plainName y.cls = true) (ho : y.cls = own) (hlen : (lg_sl As).length ≤ maxL)
    (body : ∀ (p : Program) (e : Env) (s : State) (m : MethodId) (below : List Frame) (meth : Method) (c : Code) (ls : Array Slot), p.tables.exec = Jvm.exec → c.code = code → c.maxLocals = maxL → meth.sig.returnType = ret → meth.locks = false → s.vm.findClass own = some m.cls → (∀ w ∈ GT, w.before As.toArray s = true) → lv_has ls maxL (lv_args 0 As) → va_S (fun _ => False) s.heap s.heap [] →
      W p l e (rmD d) s m As.toArray below meth c s.heap [] 0 0 (MQ below (sQ r1) As.toArray s 0 0 (fun _ => False)) (F0 m 0 ls [])) : sM l y code maxL ret d As r1 := by
  refine Met.ofW (cc := code) (maxL := maxL) (ret := ret) hy rfl ?_
  intro p e s m args below meth c s₁ B hml hv
  obtain ⟨rfl, -⟩ := hv
  have hts0 := atoms_spec (ws := Cond.code y code maxL ret :: GT) B.pre
  have hown : s.vm.findClass y.cls = some m.cls := findClass_of_methodNamed B.named
  rw [ho] at hown
  rw [lg_entry_eq]
  exact body p e s m below meth c _ B.exec B.bytes hml B.returns B.notSynchronized hown (fun w h => hts0 w (List.mem_cons_of_mem _ h)) (lv_entry As hlen) va_S.rf
theorem s_ret {r r1 : Int32} (hx : p.tables.exec = Jvm.exec) (hb : c.code = cc) (hr : meth.sig.returnType = some .int) (hlocks : meth.locks = false) (hS : va_S (fun _ => False) s.heap H locs) (h : r = r1) (hdg : decode cc pc = .ok (.ireturn, 1)) :
    W p l e R s m args below meth c H locs cells slots (MQ below (sQ r1) args s cells slots (fun _ => False)) (F0 m pc ls [.int r]) :=
  W.iret (v := r) hx hb hr (fun t ht hW => ⟨⟨r, (), rfl, h, trivial⟩, hS.F ht⟩) hS.2.2 hdg hlocks
theorem s_retz {r : Int32} {b : Bool} (hx : p.tables.exec = Jvm.exec) (hb : c.code = cc) (hr : meth.sig.returnType = some .boolean) (hlocks : meth.locks = false) (hS : va_S (fun _ => False) s.heap H locs) (h : r = bI b) (hdg : decode cc pc = .ok (.ireturn, 1)) :
    W p l e R s m args below meth c H locs cells slots (MQ below (sQ (bI b)) args s cells slots (fun _ => False)) (F0 m pc ls [.int r]) := by
  subst h
  exact W.zret (v := bI b) (ty := .boolean) hx hb hr (bI_nar b) (fun t ht hW => ⟨⟨bI b, (), rfl, rfl, trivial⟩, hS.F ht⟩) hS.2.2 hdg hlocks
theorem s_call {y : MethodName} {bytes : ByteArray} {maxL d n index nL : Nat} {ret : Option FieldType} {own : String} {As st0 : List Value} {r1 : Int32} (F : CallFix p m c cc nL s args GT own) (hM : sM l y bytes maxL ret d As r1)
    (cw : CallB R s args own index y bytes maxL ret (.code y bytes maxL ret :: GT) (rmD d) 0 0 n ∧ (Cond.static y).before args s = true) (hn : As.length = n) (hsize : ls.size = nL) (hst : st0 = As.reverse ++ rest) (hr : (rest.map fun v => v.category).sum ≤ 8) (hdg : decode cc pc = .ok (.invokestatic index, 3)) (hf : cells ≤ R.cells ∧ slots ≤ R.slots) (hS : va_S A H0 H locs)
    (kk : ∀ (H1 : Heap) (locs1 : List Loc), H.size ≤ H1.size → (∀ q : Nat, q < H.size → H1[q]? = H[q]?) → va_S A H0 H1 locs1 → W p l e R s m args below meth c H1 locs1 cells slots Q (F0 m (pc + 3) ls (.int r1 :: rest))) : W p l e R s m args below meth c H locs cells slots Q (F0 m pc ls st0) := by
  subst hst
  refine va_calli (va_runS (As := As) (rest := rest) F hM cw ⟨fun a U g mk q => ?_, fun U hU hW => ⟨rfl, trivial⟩⟩ rfl hn hsize rfl (lv_room hr) hdg ⟨hf.1, hf.2⟩) hS (fun q _ h => h.elim) (fun q h => h.elim) (fun r u t H1 locs1 ht hvm hp hB hz1 hk1 hS1 => ?_)
  · exact ⟨q.1, trivial⟩
  · subst hp
    exact kk H1 locs1 hz1 (fun q hq => hk1 q hq (fun h => h)) hS1
theorem s_cs {y : MethodName} {bytes : ByteArray} {maxL d n index nL : Nat} {ret : Option FieldType} {own : String} {As st0 : List Value} {r1 : Int32} (F : CallFix p m c cc nL s args GT own) (hM : sM l y bytes maxL ret d As r1)
    (cw : CallB R s args own index y bytes maxL ret (.code y bytes maxL ret :: GT) (rmD d) 0 0 n ∧ (Cond.static y).before args s = true) (hw : va_S (fun _ => False) s.heap H locs) (hn : As.length = n) (hsize : ls.size = nL) (hst : st0 = As.reverse ++ rest) (hr : (rest.map fun v => v.category).sum ≤ 8) (hdg : decode cc pc = .ok (.invokestatic index, 3)) (hf : cells ≤ R.cells ∧ slots ≤ R.slots)
    (kk : ∀ (H1 : Heap) (locs1 : List Loc), va_S (fun _ => False) s.heap H1 locs1 → W p l e R s m args below meth c H1 locs1 cells slots Q (F0 m (pc + 3) ls (.int r1 :: rest))) : W p l e R s m args below meth c H locs cells slots Q (F0 m pc ls st0) :=
  s_call F hM cw hn hsize hst hr hdg hf hw (fun H1 locs1 _ _ hS => kk H1 locs1 hS)
end RowsA
end
section
def xw (o : Nat → Nat) (cA : ClassId) (S : SX) : va_W := [(o 0, .inr (0, [.ref (o 1), .ref (o 2), .ref (o 3), .ref (o 4), .ref (o 5), .ref (o 6), .int (S.2 0), .int (S.2 1), .int (S.2 2), .int (S.2 3)])), (o 1, .inl (cA, 8, .inl (S.1 0))), (o 2, .inl (cA, 8, .inl (S.1 1))), (o 3, .inl (cA, 16, .inl (S.1 2))), (o 4, .inl (cA, 32, .inl (S.1 3))), (o 5, .inl (cA, 5, .inl (S.1 4))), (o 6, .inl (cA, 8, .inl (S.1 5)))]
def xA (o : Nat → Nat) (sz : Nat) : Nat → Prop := fun q => (∃ k, k < 7 ∧ q = o k) ∨ sz ≤ q
theorem xw_at {o : Nat → Nat} {cA : ClassId} {S : SX} : ∀ {k : Nat} {q : Nat × va_E}, (xw o cA S)[k]? = some q → k < 7 ∧ q.1 = o k
  | 0, _, h => by have h2 := Option.some.inj h; rw [← h2]; exact ⟨by decide, rfl⟩
  | 1, _, h => by have h2 := Option.some.inj h; rw [← h2]; exact ⟨by decide, rfl⟩
  | 2, _, h => by have h2 := Option.some.inj h; rw [← h2]; exact ⟨by decide, rfl⟩
  | 3, _, h => by have h2 := Option.some.inj h; rw [← h2]; exact ⟨by decide, rfl⟩
  | 4, _, h => by have h2 := Option.some.inj h; rw [← h2]; exact ⟨by decide, rfl⟩
  | 5, _, h => by have h2 := Option.some.inj h; rw [← h2]; exact ⟨by decide, rfl⟩
  | 6, _, h => by have h2 := Option.some.inj h; rw [← h2]; exact ⟨by decide, rfl⟩
  | k + 7, _, h => by simp [xw] at h
theorem xw_is {o : Nat → Nat} {cA : ClassId} {S : SX} : ∀ {k : Nat}, k < 7 → ∃ e : va_E, (xw o cA S)[k]? = some (o k, e)
  | 0, _ => ⟨_, rfl⟩
  | 1, _ => ⟨_, rfl⟩
  | 2, _ => ⟨_, rfl⟩
  | 3, _ => ⟨_, rfl⟩
  | 4, _ => ⟨_, rfl⟩
  | 5, _ => ⟨_, rfl⟩
  | 6, _ => ⟨_, rfl⟩
  | k + 7, h => absurd h (by omega)
def xW (D : va_G) (o : Nat → Nat) (cA : ClassId) (A : Nat → Prop) (s : State) (H0 : Heap) (S : SX) (H : Heap) (locs : List Loc) : Prop :=
  va_P D vwCl (xw o cA S) H ∧ va_D A (xw o cA S) ∧ va_S A H0 H locs ∧ va_K D vwCl [(cA, .int)] s ∧ ∀ q, H0.size ≤ q → A q
def xPre (D : va_G) (o : Nat → Nat) (cA : ClassId) (sz : Nat) (S : SX) (U : State) : Prop := U.heap.size = sz ∧ va_P D vwCl (xw o cA S) U.heap ∧ va_K D vwCl [(cA, .int)] U ∧ va_D (fun _ => True) (xw o cA S)
def xPost (D : va_G) (o : Nat → Nat) (cA : ClassId) (sz : Nat) (S : SX) (t : State) : Prop := va_P D vwCl (xw o cA S) t.heap ∧ va_K D vwCl [(cA, .int)] t ∧ va_D (xA o sz) (xw o cA S)
def xQi (D : va_G) (o : Nat → Nat) (cA : ClassId) (sz : Nat) (S1 : SX) (r1 : Int32) : Array Value → State → Outcome → State → Prop := va_Qi (fun (r : Int32) (u : SX) => r = r1 ∧ u = S1) (xPost D o cA sz) (xA o sz)
def xQv (D : va_G) (o : Nat → Nat) (cA : ClassId) (sz : Nat) (S1 : SX) : Array Value → State → Outcome → State → Prop := va_Qv (fun (u : SX) => u = S1) (xPost D o cA sz) (xA o sz)
def xMi (l : Launch) (D : va_G) (o : Nat → Nat) (cA : ClassId) (y : MethodName) (code : ByteArray) (maxL : Nat) (ret : Option FieldType) (d : Nat) (As : List Value) (S S1 : SX) (r1 : Int32) : Prop :=
  ∀ sz : Nat, Met l y (.code y code maxL ret :: GT) (rmD d) (va_Pc As (xPre D o cA sz S)) (xQi D o cA sz S1 r1) 0 0 (xA o sz)
def xMv (l : Launch) (D : va_G) (o : Nat → Nat) (cA : ClassId) (y : MethodName) (code : ByteArray) (maxL : Nat) (d : Nat) (As : List Value) (S S1 : SX) : Prop :=
  ∀ sz : Nat, Met l y (.code y code maxL none :: GT) (rmD d) (va_Pc As (xPre D o cA sz S)) (xQv D o cA sz S1) 0 0 (xA o sz)
theorem xw_ne0 {o : Nat → Nat} {cA : ClassId} {S : SX} {f : Nat → Int32} : ∀ {i : Nat}, i ≠ 1 → (xw o cA S)[i]? = (xw o cA (zA S 0 f))[i]?
  | 0, h => rfl
  | 1, h => absurd rfl h
  | 2, h => rfl
  | 3, h => rfl
  | 4, h => rfl
  | 5, h => rfl
  | 6, h => rfl
  | i + 7, _ => by simp [xw]
theorem xw_ne1 {o : Nat → Nat} {cA : ClassId} {S : SX} {f : Nat → Int32} : ∀ {i : Nat}, i ≠ 2 → (xw o cA S)[i]? = (xw o cA (zA S 1 f))[i]?
  | 0, h => rfl
  | 1, h => rfl
  | 2, h => absurd rfl h
  | 3, h => rfl
  | 4, h => rfl
  | 5, h => rfl
  | 6, h => rfl
  | i + 7, _ => by simp [xw]
theorem xw_ne2 {o : Nat → Nat} {cA : ClassId} {S : SX} {f : Nat → Int32} : ∀ {i : Nat}, i ≠ 3 → (xw o cA S)[i]? = (xw o cA (zA S 2 f))[i]?
  | 0, h => rfl
  | 1, h => rfl
  | 2, h => rfl
  | 3, h => absurd rfl h
  | 4, h => rfl
  | 5, h => rfl
  | 6, h => rfl
  | i + 7, _ => by simp [xw]
theorem xw_ne3 {o : Nat → Nat} {cA : ClassId} {S : SX} {f : Nat → Int32} : ∀ {i : Nat}, i ≠ 4 → (xw o cA S)[i]? = (xw o cA (zA S 3 f))[i]?
  | 0, h => rfl
  | 1, h => rfl
  | 2, h => rfl
  | 3, h => rfl
  | 4, h => absurd rfl h
  | 5, h => rfl
  | 6, h => rfl
  | i + 7, _ => by simp [xw]
theorem xw_ne4 {o : Nat → Nat} {cA : ClassId} {S : SX} {f : Nat → Int32} : ∀ {i : Nat}, i ≠ 5 → (xw o cA S)[i]? = (xw o cA (zA S 4 f))[i]?
  | 0, h => rfl
  | 1, h => rfl
  | 2, h => rfl
  | 3, h => rfl
  | 4, h => rfl
  | 5, h => absurd rfl h
  | 6, h => rfl
  | i + 7, _ => by simp [xw]
theorem xw_ne5 {o : Nat → Nat} {cA : ClassId} {S : SX} {f : Nat → Int32} : ∀ {i : Nat}, i ≠ 6 → (xw o cA S)[i]? = (xw o cA (zA S 5 f))[i]?
  | 0, h => rfl
  | 1, h => rfl
  | 2, h => rfl
  | 3, h => rfl
  | 4, h => rfl
  | 5, h => rfl
  | 6, h => absurd rfl h
  | i + 7, _ => by simp [xw]
section Rows_x
variable {p : Program} {l : Launch} {e : Env} {R : Room} {s : State} {m : MethodId} {args : Array Value} {below : List Frame} {meth : Method} {c : Code} {H : Heap} {locs : List Loc} {cells slots : Nat} {Q : State → Prop}
variable {cc : ByteArray} {pc : Nat} {ls : Array Slot} {rest : List Value} {D : va_G} {A : Nat → Prop} {H0 : Heap} {o : Nat → Nat} {cA : ClassId} {S : SX}
theorem x_free (hw : xW D o cA A s H0 S H locs) : ∀ q, xA o H.size q → A q := by
  intro q h
  rcases h with ⟨k, hk, rfl⟩ | h
  · obtain ⟨e, he⟩ := xw_is (o := o) (cA := cA) (S := S) hk
    exact hw.2.1.2 k _ he
  · exact hw.2.2.2.2 q (Nat.le_trans hw.2.2.1.1 h)
theorem x_kept {H1 : Heap} {locs1 : List Loc} (hw : xW D o cA A s H0 S H locs) (hk : ∀ q : Nat, q < H.size → H1[q]? = H[q]?) (hS : va_S A H0 H1 locs1) : xW D o cA A s H0 S H1 locs1 :=
  ⟨hw.1.kept (fun k q hq => hk q.1 (hw.1 k q hq).lt), hw.2.1, hS, hw.2.2.2.1, hw.2.2.2.2⟩
theorem x_met {y : MethodName} {code : ByteArray} {maxL d sz : Nat} {ret : Option FieldType} {As : List Value} {Qc : Array Value → State → Outcome → State → Prop} (hy : plainName y.cls = true) (ho : y.cls = RX0) (hlen : (lg_sl As).length ≤ maxL)
    (body : ∀ (p : Program) (e : Env) (s : State) (m : MethodId) (below : List Frame) (meth : Method) (c : Code) (ls : Array Slot), s.heap.size = sz → p.tables.exec = Jvm.exec → c.code = code → c.maxLocals = maxL → meth.sig.returnType = ret → meth.locks = false → s.vm.findClass RX0 = some m.cls → (∀ w ∈ GT, w.before As.toArray s = true) → lv_has ls maxL (lv_args 0 As) → xW D o cA (xA o s.heap.size) s s.heap S s.heap [] →
      W p l e (rmD d) s m As.toArray below meth c s.heap [] 0 0 (MQ below Qc As.toArray s 0 0 (xA o sz)) (F0 m 0 ls [])) : Met l y (.code y code maxL ret :: GT) (rmD d) (va_Pc As (xPre D o cA sz S)) Qc 0 0 (xA o sz) := by
  refine Met.ofW (cc := code) (maxL := maxL) (ret := ret) hy rfl ?_
  intro p e s m args below meth c s₁ B hml hv
  obtain ⟨rfl, hsz, hP, hK, hD0⟩ := hv
  have hts0 := atoms_spec (ws := Cond.code y code maxL ret :: GT) B.pre
  have hown : s.vm.findClass y.cls = some m.cls := findClass_of_methodNamed B.named
  rw [ho] at hown
  rw [lg_entry_eq]
  exact body p e s m below meth c _ hsz B.exec B.bytes hml B.returns B.notSynchronized hown (fun w h => hts0 w (List.mem_cons_of_mem _ h)) (lv_entry As hlen) ⟨hP, ⟨hD0.1, fun k q hk => Or.inl ⟨k, xw_at hk⟩⟩, va_S.rf, hK, fun q h => Or.inr h⟩
theorem x_reti {r r1 : Int32} {S1 : SX} (hx : p.tables.exec = Jvm.exec) (hb : c.code = cc) (hr : meth.sig.returnType = some .int) (hlocks : meth.locks = false) (hw : xW D o cA (xA o s.heap.size) s s.heap S H locs) (h : r = r1 ∧ S = S1) (hdg : decode cc pc = .ok (.ireturn, 1)) :
    W p l e R s m args below meth c H locs cells slots (MQ below (xQi D o cA s.heap.size S1 r1) args s cells slots (xA o s.heap.size)) (F0 m pc ls [.int r]) := by
  obtain ⟨hP, hD, hS, hK, -⟩ := hw
  exact W.iret (v := r) hx hb hr (fun t ht hW => ⟨⟨r, S, rfl, h, by rw [ht]; exact hP, va_K.moved hW.alike hK, hD⟩, hS.F ht⟩) hS.2.2 hdg hlocks
theorem x_retz {r : Int32} {b : Bool} {S1 : SX} (hx : p.tables.exec = Jvm.exec) (hb : c.code = cc) (hr : meth.sig.returnType = some .boolean) (hlocks : meth.locks = false) (hw : xW D o cA (xA o s.heap.size) s s.heap S H locs) (h : r = bI b ∧ S = S1) (hdg : decode cc pc = .ok (.ireturn, 1)) :
    W p l e R s m args below meth c H locs cells slots (MQ below (xQi D o cA s.heap.size S1 (bI b)) args s cells slots (xA o s.heap.size)) (F0 m pc ls [.int r]) := by
  obtain ⟨hP, hD, hS, hK, -⟩ := hw
  obtain ⟨rfl, h⟩ := h
  exact W.zret (v := bI b) (ty := .boolean) hx hb hr (bI_nar b) (fun t ht hW => ⟨⟨bI b, S, rfl, ⟨rfl, h⟩, by rw [ht]; exact hP, va_K.moved hW.alike hK, hD⟩, hS.F ht⟩) hS.2.2 hdg hlocks
theorem x_retv {S1 : SX} (hx : p.tables.exec = Jvm.exec) (hb : c.code = cc) (hr : meth.sig.returnType = none) (hlocks : meth.locks = false) (hw : xW D o cA (xA o s.heap.size) s s.heap S H locs) (h : S = S1) (hdg : decode cc pc = .ok (.return_, 1)) :
    W p l e R s m args below meth c H locs cells slots (MQ below (xQv D o cA s.heap.size S1) args s cells slots (xA o s.heap.size)) (F0 m pc ls []) := by
  obtain ⟨hP, hD, hS, hK, -⟩ := hw
  exact W.vret hx hb hr (fun t ht hW => ⟨⟨S, rfl, h, by rw [ht]; exact hP, va_K.moved hW.alike hK, hD⟩, hS.F ht⟩) hS.2.2 hdg hlocks
theorem x_cs {y : MethodName} {bytes : ByteArray} {maxL d n index nL : Nat} {ret : Option FieldType} {own : String} {As st0 : List Value} {r1 : Int32} (F : CallFix p m c cc nL s args GT own) (hM : sM l y bytes maxL ret d As r1)
    (cw : CallB R s args own index y bytes maxL ret (.code y bytes maxL ret :: GT) (rmD d) 0 0 n ∧ (Cond.static y).before args s = true) (hw : xW D o cA A s H0 S H locs) (hn : As.length = n) (hsize : ls.size = nL) (hst : st0 = As.reverse ++ rest) (hr : (rest.map fun v => v.category).sum ≤ 8) (hdg : decode cc pc = .ok (.invokestatic index, 3)) (hf : cells ≤ R.cells ∧ slots ≤ R.slots)
    (kk : ∀ (H1 : Heap) (locs1 : List Loc), xW D o cA A s H0 S H1 locs1 → W p l e R s m args below meth c H1 locs1 cells slots Q (F0 m (pc + 3) ls (.int r1 :: rest))) : W p l e R s m args below meth c H locs cells slots Q (F0 m pc ls st0) :=
  s_call F hM cw hn hsize hst hr hdg hf hw.2.2.1 (fun H1 locs1 _ hk hS => kk H1 locs1 (x_kept hw hk hS))
theorem x_ciF {y : MethodName} {bytes : ByteArray} {maxL d n index nL : Nat} {ret : Option FieldType} {own : String} {As st0 : List Value} {r1 : Int32} {S1 : SX} (F : CallFix p m c cc nL s args GT own) (hM : xMi l D o cA y bytes maxL ret d (.ref (o 0) :: As) S S1 r1)
    (cw : CallW R s args own RX0 index y bytes maxL ret (.code y bytes maxL ret :: GT) (rmD d) 0 0 n) (hw : xW D o cA A s H0 S H locs) (hn : As.length = n) (hsize : ls.size = nL) (hst : st0 = As.reverse ++ .ref (o 0) :: rest) (hr : (rest.map fun v => v.category).sum ≤ 8) (hdg : decode cc pc = .ok (.invokevirtual index, 3)) (hf : cells ≤ R.cells ∧ slots ≤ R.slots)
    (kk : ∀ (H1 : Heap) (locs1 : List Loc), xW D o cA A s H0 S1 H1 locs1 → H.size ≤ H1.size → (∀ q : Nat, q < H.size → ¬ xA o H.size q → H1[q]? = H[q]?) → W p l e R s m args below meth c H1 locs1 cells slots Q (F0 m (pc + 3) ls (.int r1 :: rest))) : W p l e R s m args below meth c H locs cells slots Q (F0 m pc ls st0) := by
  subst hst
  obtain ⟨hP, hD, hS, hK, hA⟩ := id hw
  refine va_calli (va_runV (As := As) (rest := rest) F (hM H.size) cw ⟨fun a U g mk q => ?_, ?_, fun U hU hW => ⟨rfl, by rw [hU], by rw [hU]; exact hP, va_K.moved hW.alike hK, hD.weaken (fun _ _ _ _ => trivial)⟩⟩ rfl hn hsize rfl (lv_room hr) hdg ⟨hf.1, hf.2⟩) hS (fun q _ h => x_free hw q h) (x_free hw) (fun r u t H1 locs1 ht hvm hp hB hz1 hk1 hS1 => ?_)
  · obtain ⟨q0, q1, qP, qK, qD⟩ := q
    exact ⟨q0, q1, qP, va_K.moved (u := U) (U := U.calling g mk a) (Vm.Alike.refl U.vm) qK, qD⟩
  · exact va_recv hK hP (show vwCl[0]? = some (RX0, TX0, 10) from rfl) (show (xw o cA S)[0]? = _ from rfl)
  · obtain ⟨rfl, rfl⟩ := hp
    obtain ⟨hP1, hK1, hD1⟩ := hB
    rw [ht] at hP1
    exact kk H1 locs1 ⟨hP1, hD1.weaken (fun k q hk h => x_free hw _ h), hS1, hK, hA⟩ hz1 hk1
theorem x_ci {y : MethodName} {bytes : ByteArray} {maxL d n index nL : Nat} {ret : Option FieldType} {own : String} {As st0 : List Value} {r1 : Int32} {S1 : SX} (F : CallFix p m c cc nL s args GT own) (hM : xMi l D o cA y bytes maxL ret d (.ref (o 0) :: As) S S1 r1)
    (cw : CallW R s args own RX0 index y bytes maxL ret (.code y bytes maxL ret :: GT) (rmD d) 0 0 n) (hw : xW D o cA A s H0 S H locs) (hn : As.length = n) (hsize : ls.size = nL) (hst : st0 = As.reverse ++ .ref (o 0) :: rest) (hr : (rest.map fun v => v.category).sum ≤ 8) (hdg : decode cc pc = .ok (.invokevirtual index, 3)) (hf : cells ≤ R.cells ∧ slots ≤ R.slots)
    (kk : ∀ (H1 : Heap) (locs1 : List Loc), xW D o cA A s H0 S1 H1 locs1 → W p l e R s m args below meth c H1 locs1 cells slots Q (F0 m (pc + 3) ls (.int r1 :: rest))) : W p l e R s m args below meth c H locs cells slots Q (F0 m pc ls st0) :=
  x_ciF F hM cw hw hn hsize hst hr hdg hf (fun H1 locs1 h _ _ => kk H1 locs1 h)
theorem x_cvF {y : MethodName} {bytes : ByteArray} {maxL d n index nL : Nat} {own : String} {As st0 : List Value} {S1 : SX} (F : CallFix p m c cc nL s args GT own) (hM : xMv l D o cA y bytes maxL d (.ref (o 0) :: As) S S1)
    (cw : CallW R s args own RX0 index y bytes maxL none (.code y bytes maxL none :: GT) (rmD d) 0 0 n) (hw : xW D o cA A s H0 S H locs) (hn : As.length = n) (hsize : ls.size = nL) (hst : st0 = As.reverse ++ .ref (o 0) :: rest) (hr : (rest.map fun v => v.category).sum ≤ 8) (hdg : decode cc pc = .ok (.invokevirtual index, 3)) (hf : cells ≤ R.cells ∧ slots ≤ R.slots)
    (kk : ∀ (H1 : Heap) (locs1 : List Loc), xW D o cA A s H0 S1 H1 locs1 → H.size ≤ H1.size → (∀ q : Nat, q < H.size → ¬ xA o H.size q → H1[q]? = H[q]?) → W p l e R s m args below meth c H1 locs1 cells slots Q (F0 m (pc + 3) ls rest)) : W p l e R s m args below meth c H locs cells slots Q (F0 m pc ls st0) := by
  subst hst
  obtain ⟨hP, hD, hS, hK, hA⟩ := id hw
  refine va_callv (va_runV (As := As) (rest := rest) F (hM H.size) cw ⟨fun a U g mk q => ?_, ?_, fun U hU hW => ⟨rfl, by rw [hU], by rw [hU]; exact hP, va_K.moved hW.alike hK, hD.weaken (fun _ _ _ _ => trivial)⟩⟩ rfl hn hsize rfl (lv_room hr) hdg ⟨hf.1, hf.2⟩) hS (fun q _ h => x_free hw q h) (x_free hw) (fun u t H1 locs1 ht hvm hp hB hz1 hk1 hS1 => ?_)
  · obtain ⟨q0, q1, qP, qK, qD⟩ := q
    exact ⟨q0, q1, qP, va_K.moved (u := U) (U := U.calling g mk a) (Vm.Alike.refl U.vm) qK, qD⟩
  · exact va_recv hK hP (show vwCl[0]? = some (RX0, TX0, 10) from rfl) (show (xw o cA S)[0]? = _ from rfl)
  · obtain rfl := hp
    obtain ⟨hP1, hK1, hD1⟩ := hB
    rw [ht] at hP1
    exact kk H1 locs1 ⟨hP1, hD1.weaken (fun k q hk h => x_free hw _ h), hS1, hK, hA⟩ hz1 hk1
theorem x_cv {y : MethodName} {bytes : ByteArray} {maxL d n index nL : Nat} {own : String} {As st0 : List Value} {S1 : SX} (F : CallFix p m c cc nL s args GT own) (hM : xMv l D o cA y bytes maxL d (.ref (o 0) :: As) S S1)
    (cw : CallW R s args own RX0 index y bytes maxL none (.code y bytes maxL none :: GT) (rmD d) 0 0 n) (hw : xW D o cA A s H0 S H locs) (hn : As.length = n) (hsize : ls.size = nL) (hst : st0 = As.reverse ++ .ref (o 0) :: rest) (hr : (rest.map fun v => v.category).sum ≤ 8) (hdg : decode cc pc = .ok (.invokevirtual index, 3)) (hf : cells ≤ R.cells ∧ slots ≤ R.slots)
    (kk : ∀ (H1 : Heap) (locs1 : List Loc), xW D o cA A s H0 S1 H1 locs1 → W p l e R s m args below meth c H1 locs1 cells slots Q (F0 m (pc + 3) ls rest)) : W p l e R s m args below meth c H locs cells slots Q (F0 m pc ls st0) :=
  x_cvF F hM cw hw hn hsize hst hr hdg hf (fun H1 locs1 h _ _ => kk H1 locs1 h)
theorem x_g0 (hx : p.tables.exec = Jvm.exec) (hb : c.code = cc) (hts : ∀ w ∈ GT, w.before args s = true) (hown : s.vm.findClass RX0 = some m.cls) (hw : xW D o cA A s H0 S H locs) (hdg : decode cc pc = .ok (.getfield 9, 3)) (kk : W p l e R s m args below meth c H locs cells slots Q (F0 m (pc + 3) ls (.ref (o 1) :: rest))) : W p l e R s m args below meth c H locs cells slots Q (F0 m pc ls (.ref (o 0) :: rest)) :=
  va_get (D := D) (ci := 0) (v := .ref (o 1)) (C := RX0) (T := TX0) (N := 10) hx hb hts inX0 hown hw.2.2.2.1 hw.1 0 rfl rfl 0 (by decide) (hts (.fieldLink RX0 9 "SnoopBus" "lineStates" "[I") gw_24) (fun _ h9 => h9) rfl hdg kk
theorem x_l0 (hx : p.tables.exec = Jvm.exec) (hb : c.code = cc) (hw : xW D o cA A s H0 S H locs) {n : Nat} (hn : n < 8) (hdg : decode cc pc = .ok (.iaload, 1)) (kk : W p l e R s m args below meth c H locs cells slots Q (F0 m (pc + 1) ls (.int (S.1 0 n) :: rest))) : W p l e R s m args below meth c H locs cells slots Q (F0 m pc ls (.int (nI n) :: .ref (o 1) :: rest)) := by
  refine va_iald hx hb hw.2.2.2.1 hw.1 1 0 rfl rfl (vp_in_nI hn (by decide)) hdg ?_
  rw [nI_clamp (Nat.lt_trans hn (by decide))]
  exact kk
theorem x_s0 (hx : p.tables.exec = Jvm.exec) (hb : c.code = cc) (hw : xW D o cA A s H0 S H locs) {n : Nat} {x : Int32} (hn : n < 8) (hdg : decode cc pc = .ok (.iastore, 1)) (kk : ∀ (H1 : Heap) (locs1 : List Loc), xW D o cA A s H0 (zA S 0 (upd (S.1 0) n x)) H1 locs1 → W p l e R s m args below meth c H1 locs1 cells slots Q (F0 m (pc + 1) ls rest)) : W p l e R s m args below meth c H locs cells slots Q (F0 m pc ls (.int x :: .int (nI n) :: .ref (o 1) :: rest)) := by
  obtain ⟨hP, hD, hS, hK, hA⟩ := hw
  refine va_iast hx hb hK hP hD hS 1 0 rfl rfl (vp_in_nI hn (by decide)) hdg (fun H1 locs1 hP hD hS => ?_)
  rw [nI_clamp (Nat.lt_trans hn (by decide))] at hP hD
  exact kk H1 locs1 ⟨hP, hD, hS, hK, hA⟩
theorem x_r0 {f : Nat → Int32} {H1 : Heap} {locs1 : List Loc} (hw : xW D o cA A s H0 S H locs) (hc : H1[o 1]? = some (vp_cell cA (8, .inl f))) (hk : ∀ q : Nat, q < H.size → q ≠ o 1 → H1[q]? = H[q]?) (hS : va_S A H0 H1 locs1) : xW D o cA A s H0 (zA S 0 f) H1 locs1 := by
  obtain ⟨hP, hD, -, hK, hA⟩ := hw
  refine ⟨fun i q hq => ?_, ⟨fun i j p q hp hq e => ?_, fun i q hq => ?_⟩, hS, hK, hA⟩
  · by_cases hi : i = 1
    · subst hi
      have h2 := Option.some.inj hq
      rw [← h2]
      exact hc
    · have hq2 : (xw o cA S)[i]? = some q := by
        rw [← hq]
        exact xw_ne0 hi
      refine (hP i q hq2).kept (hk q.1 (hP i q hq2).lt (fun e => hi ?_))
      exact hD.1 i 1 q _ hq2 (show (xw o cA S)[1]? = some (o 1, _) from rfl) e
  · obtain ⟨e1, p1⟩ := xw_is (o := o) (cA := cA) (S := S) (xw_at hp).1
    obtain ⟨e2, p2⟩ := xw_is (o := o) (cA := cA) (S := S) (xw_at hq).1
    exact hD.1 i j _ _ p1 p2 (by rw [← (xw_at hp).2, ← (xw_at hq).2]; exact e)
  · obtain ⟨e1, p1⟩ := xw_is (o := o) (cA := cA) (S := S) (xw_at hq).1
    rw [(xw_at hq).2]
    exact hD.2 i _ p1
theorem x_e0 {f : Nat → Int32} (hw : xW D o cA A s H0 S H locs) (h : ∀ j, j < 8 → S.1 0 j = f j) : xW D o cA A s H0 (zA S 0 f) H locs := by
  refine x_r0 hw ?_ (fun q _ _ => rfl) hw.2.2.1
  rw [← arr_congr h]
  exact hw.1 1 _ rfl
theorem x_g1 (hx : p.tables.exec = Jvm.exec) (hb : c.code = cc) (hts : ∀ w ∈ GT, w.before args s = true) (hown : s.vm.findClass RX0 = some m.cls) (hw : xW D o cA A s H0 S H locs) (hdg : decode cc pc = .ok (.getfield 13, 3)) (kk : W p l e R s m args below meth c H locs cells slots Q (F0 m (pc + 3) ls (.ref (o 2) :: rest))) : W p l e R s m args below meth c H locs cells slots Q (F0 m pc ls (.ref (o 0) :: rest)) :=
  va_get (D := D) (ci := 0) (v := .ref (o 2)) (C := RX0) (T := TX0) (N := 10) hx hb hts inX0 hown hw.2.2.2.1 hw.1 0 rfl rfl 1 (by decide) (hts (.fieldLink RX0 13 "SnoopBus" "lineBlocks" "[I") gw_25) (fun _ h9 => h9) rfl hdg kk
theorem x_l1 (hx : p.tables.exec = Jvm.exec) (hb : c.code = cc) (hw : xW D o cA A s H0 S H locs) {n : Nat} (hn : n < 8) (hdg : decode cc pc = .ok (.iaload, 1)) (kk : W p l e R s m args below meth c H locs cells slots Q (F0 m (pc + 1) ls (.int (S.1 1 n) :: rest))) : W p l e R s m args below meth c H locs cells slots Q (F0 m pc ls (.int (nI n) :: .ref (o 2) :: rest)) := by
  refine va_iald hx hb hw.2.2.2.1 hw.1 2 0 rfl rfl (vp_in_nI hn (by decide)) hdg ?_
  rw [nI_clamp (Nat.lt_trans hn (by decide))]
  exact kk
theorem x_s1 (hx : p.tables.exec = Jvm.exec) (hb : c.code = cc) (hw : xW D o cA A s H0 S H locs) {n : Nat} {x : Int32} (hn : n < 8) (hdg : decode cc pc = .ok (.iastore, 1)) (kk : ∀ (H1 : Heap) (locs1 : List Loc), xW D o cA A s H0 (zA S 1 (upd (S.1 1) n x)) H1 locs1 → W p l e R s m args below meth c H1 locs1 cells slots Q (F0 m (pc + 1) ls rest)) : W p l e R s m args below meth c H locs cells slots Q (F0 m pc ls (.int x :: .int (nI n) :: .ref (o 2) :: rest)) := by
  obtain ⟨hP, hD, hS, hK, hA⟩ := hw
  refine va_iast hx hb hK hP hD hS 2 0 rfl rfl (vp_in_nI hn (by decide)) hdg (fun H1 locs1 hP hD hS => ?_)
  rw [nI_clamp (Nat.lt_trans hn (by decide))] at hP hD
  exact kk H1 locs1 ⟨hP, hD, hS, hK, hA⟩
theorem x_r1 {f : Nat → Int32} {H1 : Heap} {locs1 : List Loc} (hw : xW D o cA A s H0 S H locs) (hc : H1[o 2]? = some (vp_cell cA (8, .inl f))) (hk : ∀ q : Nat, q < H.size → q ≠ o 2 → H1[q]? = H[q]?) (hS : va_S A H0 H1 locs1) : xW D o cA A s H0 (zA S 1 f) H1 locs1 := by
  obtain ⟨hP, hD, -, hK, hA⟩ := hw
  refine ⟨fun i q hq => ?_, ⟨fun i j p q hp hq e => ?_, fun i q hq => ?_⟩, hS, hK, hA⟩
  · by_cases hi : i = 2
    · subst hi
      have h2 := Option.some.inj hq
      rw [← h2]
      exact hc
    · have hq2 : (xw o cA S)[i]? = some q := by
        rw [← hq]
        exact xw_ne1 hi
      refine (hP i q hq2).kept (hk q.1 (hP i q hq2).lt (fun e => hi ?_))
      exact hD.1 i 2 q _ hq2 (show (xw o cA S)[2]? = some (o 2, _) from rfl) e
  · obtain ⟨e1, p1⟩ := xw_is (o := o) (cA := cA) (S := S) (xw_at hp).1
    obtain ⟨e2, p2⟩ := xw_is (o := o) (cA := cA) (S := S) (xw_at hq).1
    exact hD.1 i j _ _ p1 p2 (by rw [← (xw_at hp).2, ← (xw_at hq).2]; exact e)
  · obtain ⟨e1, p1⟩ := xw_is (o := o) (cA := cA) (S := S) (xw_at hq).1
    rw [(xw_at hq).2]
    exact hD.2 i _ p1
theorem x_e1 {f : Nat → Int32} (hw : xW D o cA A s H0 S H locs) (h : ∀ j, j < 8 → S.1 1 j = f j) : xW D o cA A s H0 (zA S 1 f) H locs := by
  refine x_r1 hw ?_ (fun q _ _ => rfl) hw.2.2.1
  rw [← arr_congr h]
  exact hw.1 2 _ rfl
theorem x_g2 (hx : p.tables.exec = Jvm.exec) (hb : c.code = cc) (hts : ∀ w ∈ GT, w.before args s = true) (hown : s.vm.findClass RX0 = some m.cls) (hw : xW D o cA A s H0 S H locs) (hdg : decode cc pc = .ok (.getfield 16, 3)) (kk : W p l e R s m args below meth c H locs cells slots Q (F0 m (pc + 3) ls (.ref (o 3) :: rest))) : W p l e R s m args below meth c H locs cells slots Q (F0 m pc ls (.ref (o 0) :: rest)) :=
  va_get (D := D) (ci := 0) (v := .ref (o 3)) (C := RX0) (T := TX0) (N := 10) hx hb hts inX0 hown hw.2.2.2.1 hw.1 0 rfl rfl 2 (by decide) (hts (.fieldLink RX0 16 "SnoopBus" "lineWords" "[I") gw_26) (fun _ h9 => h9) rfl hdg kk
theorem x_l2 (hx : p.tables.exec = Jvm.exec) (hb : c.code = cc) (hw : xW D o cA A s H0 S H locs) {n : Nat} (hn : n < 16) (hdg : decode cc pc = .ok (.iaload, 1)) (kk : W p l e R s m args below meth c H locs cells slots Q (F0 m (pc + 1) ls (.int (S.1 2 n) :: rest))) : W p l e R s m args below meth c H locs cells slots Q (F0 m pc ls (.int (nI n) :: .ref (o 3) :: rest)) := by
  refine va_iald hx hb hw.2.2.2.1 hw.1 3 0 rfl rfl (vp_in_nI hn (by decide)) hdg ?_
  rw [nI_clamp (Nat.lt_trans hn (by decide))]
  exact kk
theorem x_s2 (hx : p.tables.exec = Jvm.exec) (hb : c.code = cc) (hw : xW D o cA A s H0 S H locs) {n : Nat} {x : Int32} (hn : n < 16) (hdg : decode cc pc = .ok (.iastore, 1)) (kk : ∀ (H1 : Heap) (locs1 : List Loc), xW D o cA A s H0 (zA S 2 (upd (S.1 2) n x)) H1 locs1 → W p l e R s m args below meth c H1 locs1 cells slots Q (F0 m (pc + 1) ls rest)) : W p l e R s m args below meth c H locs cells slots Q (F0 m pc ls (.int x :: .int (nI n) :: .ref (o 3) :: rest)) := by
  obtain ⟨hP, hD, hS, hK, hA⟩ := hw
  refine va_iast hx hb hK hP hD hS 3 0 rfl rfl (vp_in_nI hn (by decide)) hdg (fun H1 locs1 hP hD hS => ?_)
  rw [nI_clamp (Nat.lt_trans hn (by decide))] at hP hD
  exact kk H1 locs1 ⟨hP, hD, hS, hK, hA⟩
theorem x_r2 {f : Nat → Int32} {H1 : Heap} {locs1 : List Loc} (hw : xW D o cA A s H0 S H locs) (hc : H1[o 3]? = some (vp_cell cA (16, .inl f))) (hk : ∀ q : Nat, q < H.size → q ≠ o 3 → H1[q]? = H[q]?) (hS : va_S A H0 H1 locs1) : xW D o cA A s H0 (zA S 2 f) H1 locs1 := by
  obtain ⟨hP, hD, -, hK, hA⟩ := hw
  refine ⟨fun i q hq => ?_, ⟨fun i j p q hp hq e => ?_, fun i q hq => ?_⟩, hS, hK, hA⟩
  · by_cases hi : i = 3
    · subst hi
      have h2 := Option.some.inj hq
      rw [← h2]
      exact hc
    · have hq2 : (xw o cA S)[i]? = some q := by
        rw [← hq]
        exact xw_ne2 hi
      refine (hP i q hq2).kept (hk q.1 (hP i q hq2).lt (fun e => hi ?_))
      exact hD.1 i 3 q _ hq2 (show (xw o cA S)[3]? = some (o 3, _) from rfl) e
  · obtain ⟨e1, p1⟩ := xw_is (o := o) (cA := cA) (S := S) (xw_at hp).1
    obtain ⟨e2, p2⟩ := xw_is (o := o) (cA := cA) (S := S) (xw_at hq).1
    exact hD.1 i j _ _ p1 p2 (by rw [← (xw_at hp).2, ← (xw_at hq).2]; exact e)
  · obtain ⟨e1, p1⟩ := xw_is (o := o) (cA := cA) (S := S) (xw_at hq).1
    rw [(xw_at hq).2]
    exact hD.2 i _ p1
theorem x_e2 {f : Nat → Int32} (hw : xW D o cA A s H0 S H locs) (h : ∀ j, j < 16 → S.1 2 j = f j) : xW D o cA A s H0 (zA S 2 f) H locs := by
  refine x_r2 hw ?_ (fun q _ _ => rfl) hw.2.2.1
  rw [← arr_congr h]
  exact hw.1 3 _ rfl
theorem x_g3 (hx : p.tables.exec = Jvm.exec) (hb : c.code = cc) (hts : ∀ w ∈ GT, w.before args s = true) (hown : s.vm.findClass RX0 = some m.cls) (hw : xW D o cA A s H0 S H locs) (hdg : decode cc pc = .ok (.getfield 19, 3)) (kk : W p l e R s m args below meth c H locs cells slots Q (F0 m (pc + 3) ls (.ref (o 4) :: rest))) : W p l e R s m args below meth c H locs cells slots Q (F0 m pc ls (.ref (o 0) :: rest)) :=
  va_get (D := D) (ci := 0) (v := .ref (o 4)) (C := RX0) (T := TX0) (N := 10) hx hb hts inX0 hown hw.2.2.2.1 hw.1 0 rfl rfl 3 (by decide) (hts (.fieldLink RX0 19 "SnoopBus" "memoryWords" "[I") gw_27) (fun _ h9 => h9) rfl hdg kk
theorem x_l3 (hx : p.tables.exec = Jvm.exec) (hb : c.code = cc) (hw : xW D o cA A s H0 S H locs) {n : Nat} (hn : n < 32) (hdg : decode cc pc = .ok (.iaload, 1)) (kk : W p l e R s m args below meth c H locs cells slots Q (F0 m (pc + 1) ls (.int (S.1 3 n) :: rest))) : W p l e R s m args below meth c H locs cells slots Q (F0 m pc ls (.int (nI n) :: .ref (o 4) :: rest)) := by
  refine va_iald hx hb hw.2.2.2.1 hw.1 4 0 rfl rfl (vp_in_nI hn (by decide)) hdg ?_
  rw [nI_clamp (Nat.lt_trans hn (by decide))]
  exact kk
theorem x_s3 (hx : p.tables.exec = Jvm.exec) (hb : c.code = cc) (hw : xW D o cA A s H0 S H locs) {n : Nat} {x : Int32} (hn : n < 32) (hdg : decode cc pc = .ok (.iastore, 1)) (kk : ∀ (H1 : Heap) (locs1 : List Loc), xW D o cA A s H0 (zA S 3 (upd (S.1 3) n x)) H1 locs1 → W p l e R s m args below meth c H1 locs1 cells slots Q (F0 m (pc + 1) ls rest)) : W p l e R s m args below meth c H locs cells slots Q (F0 m pc ls (.int x :: .int (nI n) :: .ref (o 4) :: rest)) := by
  obtain ⟨hP, hD, hS, hK, hA⟩ := hw
  refine va_iast hx hb hK hP hD hS 4 0 rfl rfl (vp_in_nI hn (by decide)) hdg (fun H1 locs1 hP hD hS => ?_)
  rw [nI_clamp (Nat.lt_trans hn (by decide))] at hP hD
  exact kk H1 locs1 ⟨hP, hD, hS, hK, hA⟩
theorem x_r3 {f : Nat → Int32} {H1 : Heap} {locs1 : List Loc} (hw : xW D o cA A s H0 S H locs) (hc : H1[o 4]? = some (vp_cell cA (32, .inl f))) (hk : ∀ q : Nat, q < H.size → q ≠ o 4 → H1[q]? = H[q]?) (hS : va_S A H0 H1 locs1) : xW D o cA A s H0 (zA S 3 f) H1 locs1 := by
  obtain ⟨hP, hD, -, hK, hA⟩ := hw
  refine ⟨fun i q hq => ?_, ⟨fun i j p q hp hq e => ?_, fun i q hq => ?_⟩, hS, hK, hA⟩
  · by_cases hi : i = 4
    · subst hi
      have h2 := Option.some.inj hq
      rw [← h2]
      exact hc
    · have hq2 : (xw o cA S)[i]? = some q := by
        rw [← hq]
        exact xw_ne3 hi
      refine (hP i q hq2).kept (hk q.1 (hP i q hq2).lt (fun e => hi ?_))
      exact hD.1 i 4 q _ hq2 (show (xw o cA S)[4]? = some (o 4, _) from rfl) e
  · obtain ⟨e1, p1⟩ := xw_is (o := o) (cA := cA) (S := S) (xw_at hp).1
    obtain ⟨e2, p2⟩ := xw_is (o := o) (cA := cA) (S := S) (xw_at hq).1
    exact hD.1 i j _ _ p1 p2 (by rw [← (xw_at hp).2, ← (xw_at hq).2]; exact e)
  · obtain ⟨e1, p1⟩ := xw_is (o := o) (cA := cA) (S := S) (xw_at hq).1
    rw [(xw_at hq).2]
    exact hD.2 i _ p1
theorem x_e3 {f : Nat → Int32} (hw : xW D o cA A s H0 S H locs) (h : ∀ j, j < 32 → S.1 3 j = f j) : xW D o cA A s H0 (zA S 3 f) H locs := by
  refine x_r3 hw ?_ (fun q _ _ => rfl) hw.2.2.1
  rw [← arr_congr h]
  exact hw.1 4 _ rfl
theorem x_g4 (hx : p.tables.exec = Jvm.exec) (hb : c.code = cc) (hts : ∀ w ∈ GT, w.before args s = true) (hown : s.vm.findClass RX0 = some m.cls) (hw : xW D o cA A s H0 S H locs) (hdg : decode cc pc = .ok (.getfield 22, 3)) (kk : W p l e R s m args below meth c H locs cells slots Q (F0 m (pc + 3) ls (.ref (o 5) :: rest))) : W p l e R s m args below meth c H locs cells slots Q (F0 m pc ls (.ref (o 0) :: rest)) :=
  va_get (D := D) (ci := 0) (v := .ref (o 5)) (C := RX0) (T := TX0) (N := 10) hx hb hts inX0 hown hw.2.2.2.1 hw.1 0 rfl rfl 4 (by decide) (hts (.fieldLink RX0 22 "SnoopBus" "kindCounts" "[I") gw_28) (fun _ h9 => h9) rfl hdg kk
theorem x_l4 (hx : p.tables.exec = Jvm.exec) (hb : c.code = cc) (hw : xW D o cA A s H0 S H locs) {n : Nat} (hn : n < 5) (hdg : decode cc pc = .ok (.iaload, 1)) (kk : W p l e R s m args below meth c H locs cells slots Q (F0 m (pc + 1) ls (.int (S.1 4 n) :: rest))) : W p l e R s m args below meth c H locs cells slots Q (F0 m pc ls (.int (nI n) :: .ref (o 5) :: rest)) := by
  refine va_iald hx hb hw.2.2.2.1 hw.1 5 0 rfl rfl (vp_in_nI hn (by decide)) hdg ?_
  rw [nI_clamp (Nat.lt_trans hn (by decide))]
  exact kk
theorem x_s4 (hx : p.tables.exec = Jvm.exec) (hb : c.code = cc) (hw : xW D o cA A s H0 S H locs) {n : Nat} {x : Int32} (hn : n < 5) (hdg : decode cc pc = .ok (.iastore, 1)) (kk : ∀ (H1 : Heap) (locs1 : List Loc), xW D o cA A s H0 (zA S 4 (upd (S.1 4) n x)) H1 locs1 → W p l e R s m args below meth c H1 locs1 cells slots Q (F0 m (pc + 1) ls rest)) : W p l e R s m args below meth c H locs cells slots Q (F0 m pc ls (.int x :: .int (nI n) :: .ref (o 5) :: rest)) := by
  obtain ⟨hP, hD, hS, hK, hA⟩ := hw
  refine va_iast hx hb hK hP hD hS 5 0 rfl rfl (vp_in_nI hn (by decide)) hdg (fun H1 locs1 hP hD hS => ?_)
  rw [nI_clamp (Nat.lt_trans hn (by decide))] at hP hD
  exact kk H1 locs1 ⟨hP, hD, hS, hK, hA⟩
theorem x_r4 {f : Nat → Int32} {H1 : Heap} {locs1 : List Loc} (hw : xW D o cA A s H0 S H locs) (hc : H1[o 5]? = some (vp_cell cA (5, .inl f))) (hk : ∀ q : Nat, q < H.size → q ≠ o 5 → H1[q]? = H[q]?) (hS : va_S A H0 H1 locs1) : xW D o cA A s H0 (zA S 4 f) H1 locs1 := by
  obtain ⟨hP, hD, -, hK, hA⟩ := hw
  refine ⟨fun i q hq => ?_, ⟨fun i j p q hp hq e => ?_, fun i q hq => ?_⟩, hS, hK, hA⟩
  · by_cases hi : i = 5
    · subst hi
      have h2 := Option.some.inj hq
      rw [← h2]
      exact hc
    · have hq2 : (xw o cA S)[i]? = some q := by
        rw [← hq]
        exact xw_ne4 hi
      refine (hP i q hq2).kept (hk q.1 (hP i q hq2).lt (fun e => hi ?_))
      exact hD.1 i 5 q _ hq2 (show (xw o cA S)[5]? = some (o 5, _) from rfl) e
  · obtain ⟨e1, p1⟩ := xw_is (o := o) (cA := cA) (S := S) (xw_at hp).1
    obtain ⟨e2, p2⟩ := xw_is (o := o) (cA := cA) (S := S) (xw_at hq).1
    exact hD.1 i j _ _ p1 p2 (by rw [← (xw_at hp).2, ← (xw_at hq).2]; exact e)
  · obtain ⟨e1, p1⟩ := xw_is (o := o) (cA := cA) (S := S) (xw_at hq).1
    rw [(xw_at hq).2]
    exact hD.2 i _ p1
theorem x_e4 {f : Nat → Int32} (hw : xW D o cA A s H0 S H locs) (h : ∀ j, j < 5 → S.1 4 j = f j) : xW D o cA A s H0 (zA S 4 f) H locs := by
  refine x_r4 hw ?_ (fun q _ _ => rfl) hw.2.2.1
  rw [← arr_congr h]
  exact hw.1 5 _ rfl
theorem x_g5 (hx : p.tables.exec = Jvm.exec) (hb : c.code = cc) (hts : ∀ w ∈ GT, w.before args s = true) (hown : s.vm.findClass RX0 = some m.cls) (hw : xW D o cA A s H0 S H locs) (hdg : decode cc pc = .ok (.getfield 25, 3)) (kk : W p l e R s m args below meth c H locs cells slots Q (F0 m (pc + 3) ls (.ref (o 6) :: rest))) : W p l e R s m args below meth c H locs cells slots Q (F0 m pc ls (.ref (o 0) :: rest)) :=
  va_get (D := D) (ci := 0) (v := .ref (o 6)) (C := RX0) (T := TX0) (N := 10) hx hb hts inX0 hown hw.2.2.2.1 hw.1 0 rfl rfl 5 (by decide) (hts (.fieldLink RX0 25 "SnoopBus" "recent" "[I") gw_29) (fun _ h9 => h9) rfl hdg kk
theorem x_l5 (hx : p.tables.exec = Jvm.exec) (hb : c.code = cc) (hw : xW D o cA A s H0 S H locs) {n : Nat} (hn : n < 8) (hdg : decode cc pc = .ok (.iaload, 1)) (kk : W p l e R s m args below meth c H locs cells slots Q (F0 m (pc + 1) ls (.int (S.1 5 n) :: rest))) : W p l e R s m args below meth c H locs cells slots Q (F0 m pc ls (.int (nI n) :: .ref (o 6) :: rest)) := by
  refine va_iald hx hb hw.2.2.2.1 hw.1 6 0 rfl rfl (vp_in_nI hn (by decide)) hdg ?_
  rw [nI_clamp (Nat.lt_trans hn (by decide))]
  exact kk
theorem x_s5 (hx : p.tables.exec = Jvm.exec) (hb : c.code = cc) (hw : xW D o cA A s H0 S H locs) {n : Nat} {x : Int32} (hn : n < 8) (hdg : decode cc pc = .ok (.iastore, 1)) (kk : ∀ (H1 : Heap) (locs1 : List Loc), xW D o cA A s H0 (zA S 5 (upd (S.1 5) n x)) H1 locs1 → W p l e R s m args below meth c H1 locs1 cells slots Q (F0 m (pc + 1) ls rest)) : W p l e R s m args below meth c H locs cells slots Q (F0 m pc ls (.int x :: .int (nI n) :: .ref (o 6) :: rest)) := by
  obtain ⟨hP, hD, hS, hK, hA⟩ := hw
  refine va_iast hx hb hK hP hD hS 6 0 rfl rfl (vp_in_nI hn (by decide)) hdg (fun H1 locs1 hP hD hS => ?_)
  rw [nI_clamp (Nat.lt_trans hn (by decide))] at hP hD
  exact kk H1 locs1 ⟨hP, hD, hS, hK, hA⟩
theorem x_r5 {f : Nat → Int32} {H1 : Heap} {locs1 : List Loc} (hw : xW D o cA A s H0 S H locs) (hc : H1[o 6]? = some (vp_cell cA (8, .inl f))) (hk : ∀ q : Nat, q < H.size → q ≠ o 6 → H1[q]? = H[q]?) (hS : va_S A H0 H1 locs1) : xW D o cA A s H0 (zA S 5 f) H1 locs1 := by
  obtain ⟨hP, hD, -, hK, hA⟩ := hw
  refine ⟨fun i q hq => ?_, ⟨fun i j p q hp hq e => ?_, fun i q hq => ?_⟩, hS, hK, hA⟩
  · by_cases hi : i = 6
    · subst hi
      have h2 := Option.some.inj hq
      rw [← h2]
      exact hc
    · have hq2 : (xw o cA S)[i]? = some q := by
        rw [← hq]
        exact xw_ne5 hi
      refine (hP i q hq2).kept (hk q.1 (hP i q hq2).lt (fun e => hi ?_))
      exact hD.1 i 6 q _ hq2 (show (xw o cA S)[6]? = some (o 6, _) from rfl) e
  · obtain ⟨e1, p1⟩ := xw_is (o := o) (cA := cA) (S := S) (xw_at hp).1
    obtain ⟨e2, p2⟩ := xw_is (o := o) (cA := cA) (S := S) (xw_at hq).1
    exact hD.1 i j _ _ p1 p2 (by rw [← (xw_at hp).2, ← (xw_at hq).2]; exact e)
  · obtain ⟨e1, p1⟩ := xw_is (o := o) (cA := cA) (S := S) (xw_at hq).1
    rw [(xw_at hq).2]
    exact hD.2 i _ p1
theorem x_e5 {f : Nat → Int32} (hw : xW D o cA A s H0 S H locs) (h : ∀ j, j < 8 → S.1 5 j = f j) : xW D o cA A s H0 (zA S 5 f) H locs := by
  refine x_r5 hw ?_ (fun q _ _ => rfl) hw.2.2.1
  rw [← arr_congr h]
  exact hw.1 6 _ rfl
theorem x_f0 (hx : p.tables.exec = Jvm.exec) (hb : c.code = cc) (hts : ∀ w ∈ GT, w.before args s = true) (hown : s.vm.findClass RX0 = some m.cls) (hw : xW D o cA A s H0 S H locs) (hdg : decode cc pc = .ok (.getfield 32, 3)) (kk : W p l e R s m args below meth c H locs cells slots Q (F0 m (pc + 3) ls (.int (S.2 0) :: rest))) : W p l e R s m args below meth c H locs cells slots Q (F0 m pc ls (.ref (o 0) :: rest)) :=
  va_get (D := D) (ci := 0) (v := .int (S.2 0)) (C := RX0) (T := TX0) (N := 10) hx hb hts inX0 hown hw.2.2.2.1 hw.1 0 rfl rfl 6 (by decide) (hts (.fieldLink RX0 32 "SnoopBus" "chosen" "I") gw_30) (fun _ h9 => h9) rfl hdg kk
theorem x_p0 (hx : p.tables.exec = Jvm.exec) (hb : c.code = cc) (hts : ∀ w ∈ GT, w.before args s = true) (hown : s.vm.findClass RX0 = some m.cls) (hw : xW D o cA A s H0 S H locs) {x : Int32} (hdg : decode cc pc = .ok (.putfield 32, 3)) (kk : ∀ (H1 : Heap) (locs1 : List Loc), xW D o cA A s H0 (zF S 0 x) H1 locs1 → W p l e R s m args below meth c H1 locs1 cells slots Q (F0 m (pc + 3) ls rest)) : W p l e R s m args below meth c H locs cells slots Q (F0 m pc ls (.int x :: .ref (o 0) :: rest)) := by
  obtain ⟨hP, hD, hS, hK, hA⟩ := hw
  exact va_put (D := D) (ci := 0) (v := .int x) (ty := .int) (C := RX0) (T := TX0) (N := 10) hx hb hts inX0 tyX0 tyX0_ok nmX0 hown hK hP hD hS 0 rfl rfl 6 (by decide) (hts (.fieldLink RX0 32 "SnoopBus" "chosen" "I") gw_30) (fun _ h9 => h9) rfl (by decide +kernel) rfl rfl (Nat.le_of_ble_eq_true rfl) hdg (fun H1 locs1 hP hD hS => kk H1 locs1 ⟨hP, hD, hS, hK, hA⟩)
theorem x_f1 (hx : p.tables.exec = Jvm.exec) (hb : c.code = cc) (hts : ∀ w ∈ GT, w.before args s = true) (hown : s.vm.findClass RX0 = some m.cls) (hw : xW D o cA A s H0 S H locs) (hdg : decode cc pc = .ok (.getfield 62, 3)) (kk : W p l e R s m args below meth c H locs cells slots Q (F0 m (pc + 3) ls (.int (S.2 1) :: rest))) : W p l e R s m args below meth c H locs cells slots Q (F0 m pc ls (.ref (o 0) :: rest)) :=
  va_get (D := D) (ci := 0) (v := .int (S.2 1)) (C := RX0) (T := TX0) (N := 10) hx hb hts inX0 hown hw.2.2.2.1 hw.1 0 rfl rfl 7 (by decide) (hts (.fieldLink RX0 62 "SnoopBus" "transactions" "I") gw_31) (fun _ h9 => h9) rfl hdg kk
theorem x_p1 (hx : p.tables.exec = Jvm.exec) (hb : c.code = cc) (hts : ∀ w ∈ GT, w.before args s = true) (hown : s.vm.findClass RX0 = some m.cls) (hw : xW D o cA A s H0 S H locs) {x : Int32} (hdg : decode cc pc = .ok (.putfield 62, 3)) (kk : ∀ (H1 : Heap) (locs1 : List Loc), xW D o cA A s H0 (zF S 1 x) H1 locs1 → W p l e R s m args below meth c H1 locs1 cells slots Q (F0 m (pc + 3) ls rest)) : W p l e R s m args below meth c H locs cells slots Q (F0 m pc ls (.int x :: .ref (o 0) :: rest)) := by
  obtain ⟨hP, hD, hS, hK, hA⟩ := hw
  exact va_put (D := D) (ci := 0) (v := .int x) (ty := .int) (C := RX0) (T := TX0) (N := 10) hx hb hts inX0 tyX0 tyX0_ok nmX0 hown hK hP hD hS 0 rfl rfl 7 (by decide) (hts (.fieldLink RX0 62 "SnoopBus" "transactions" "I") gw_31) (fun _ h9 => h9) rfl (by decide +kernel) rfl rfl (Nat.le_of_ble_eq_true rfl) hdg (fun H1 locs1 hP hD hS => kk H1 locs1 ⟨hP, hD, hS, hK, hA⟩)
theorem x_f2 (hx : p.tables.exec = Jvm.exec) (hb : c.code = cc) (hts : ∀ w ∈ GT, w.before args s = true) (hown : s.vm.findClass RX0 = some m.cls) (hw : xW D o cA A s H0 S H locs) (hdg : decode cc pc = .ok (.getfield 96, 3)) (kk : W p l e R s m args below meth c H locs cells slots Q (F0 m (pc + 3) ls (.int (S.2 2) :: rest))) : W p l e R s m args below meth c H locs cells slots Q (F0 m pc ls (.ref (o 0) :: rest)) :=
  va_get (D := D) (ci := 0) (v := .int (S.2 2)) (C := RX0) (T := TX0) (N := 10) hx hb hts inX0 hown hw.2.2.2.1 hw.1 0 rfl rfl 8 (by decide) (hts (.fieldLink RX0 96 "SnoopBus" "hitCount" "I") gw_32) (fun _ h9 => h9) rfl hdg kk
theorem x_p2 (hx : p.tables.exec = Jvm.exec) (hb : c.code = cc) (hts : ∀ w ∈ GT, w.before args s = true) (hown : s.vm.findClass RX0 = some m.cls) (hw : xW D o cA A s H0 S H locs) {x : Int32} (hdg : decode cc pc = .ok (.putfield 96, 3)) (kk : ∀ (H1 : Heap) (locs1 : List Loc), xW D o cA A s H0 (zF S 2 x) H1 locs1 → W p l e R s m args below meth c H1 locs1 cells slots Q (F0 m (pc + 3) ls rest)) : W p l e R s m args below meth c H locs cells slots Q (F0 m pc ls (.int x :: .ref (o 0) :: rest)) := by
  obtain ⟨hP, hD, hS, hK, hA⟩ := hw
  exact va_put (D := D) (ci := 0) (v := .int x) (ty := .int) (C := RX0) (T := TX0) (N := 10) hx hb hts inX0 tyX0 tyX0_ok nmX0 hown hK hP hD hS 0 rfl rfl 8 (by decide) (hts (.fieldLink RX0 96 "SnoopBus" "hitCount" "I") gw_32) (fun _ h9 => h9) rfl (by decide +kernel) rfl rfl (Nat.le_of_ble_eq_true rfl) hdg (fun H1 locs1 hP hD hS => kk H1 locs1 ⟨hP, hD, hS, hK, hA⟩)
theorem x_f3 (hx : p.tables.exec = Jvm.exec) (hb : c.code = cc) (hts : ∀ w ∈ GT, w.before args s = true) (hown : s.vm.findClass RX0 = some m.cls) (hw : xW D o cA A s H0 S H locs) (hdg : decode cc pc = .ok (.getfield 99, 3)) (kk : W p l e R s m args below meth c H locs cells slots Q (F0 m (pc + 3) ls (.int (S.2 3) :: rest))) : W p l e R s m args below meth c H locs cells slots Q (F0 m pc ls (.ref (o 0) :: rest)) :=
  va_get (D := D) (ci := 0) (v := .int (S.2 3)) (C := RX0) (T := TX0) (N := 10) hx hb hts inX0 hown hw.2.2.2.1 hw.1 0 rfl rfl 9 (by decide) (hts (.fieldLink RX0 99 "SnoopBus" "missCount" "I") gw_33) (fun _ h9 => h9) rfl hdg kk
theorem x_p3 (hx : p.tables.exec = Jvm.exec) (hb : c.code = cc) (hts : ∀ w ∈ GT, w.before args s = true) (hown : s.vm.findClass RX0 = some m.cls) (hw : xW D o cA A s H0 S H locs) {x : Int32} (hdg : decode cc pc = .ok (.putfield 99, 3)) (kk : ∀ (H1 : Heap) (locs1 : List Loc), xW D o cA A s H0 (zF S 3 x) H1 locs1 → W p l e R s m args below meth c H1 locs1 cells slots Q (F0 m (pc + 3) ls rest)) : W p l e R s m args below meth c H locs cells slots Q (F0 m pc ls (.int x :: .ref (o 0) :: rest)) := by
  obtain ⟨hP, hD, hS, hK, hA⟩ := hw
  exact va_put (D := D) (ci := 0) (v := .int x) (ty := .int) (C := RX0) (T := TX0) (N := 10) hx hb hts inX0 tyX0 tyX0_ok nmX0 hown hK hP hD hS 0 rfl rfl 9 (by decide) (hts (.fieldLink RX0 99 "SnoopBus" "missCount" "I") gw_33) (fun _ h9 => h9) rfl (by decide +kernel) rfl rfl (Nat.le_of_ble_eq_true rfl) hdg (fun H1 locs1 hP hD hS => kk H1 locs1 ⟨hP, hD, hS, hK, hA⟩)
theorem x_cp23 (hx : p.tables.exec = Jvm.exec) (hb : c.code = cc) (hml : c.maxLocals = ls.size) (hts : ∀ w ∈ GT, w.before args s = true) (hown : s.vm.findClass RX0 = some m.cls) (hw : xW D o cA A s H0 S H locs) {sp dp n : Nat} (h1 : sp + n ≤ 16) (h2 : dp + n ≤ 32) (hfr : 1 ≤ R.frames) (hlo : (rest.map fun v => v.category).sum + (nativeFrameWords "java/lang/System" "arraycopy" 5 + 11) ≤ R.locals) (hdg : decode cc pc = .ok (.invokestatic 108, 3))
    (kk : ∀ (H1 : Heap) (locs1 : List Loc), xW D o cA A s H0 (zA S 3 (va_cpy (S.1 2) (S.1 3) sp dp n)) H1 locs1 → W p l e R s m args below meth c H1 locs1 cells slots Q (F0 m (pc + 3) ls rest)) : W p l e R s m args below meth c H locs cells slots Q (F0 m pc ls (.int (nI n) :: .int (nI dp) :: .ref (o 4) :: .int (nI sp) :: .ref (o 3) :: rest)) := by
  obtain ⟨hP, hD, hS, hK, hA⟩ := hw
  have b1 : sp < 2 ^ 31 := Nat.lt_of_le_of_lt (Nat.le_trans (Nat.le_add_right sp n) h1) (by decide)
  have b2 : dp < 2 ^ 31 := Nat.lt_of_le_of_lt (Nat.le_trans (Nat.le_add_right dp n) h2) (by decide)
  have b3 : n < 2 ^ 31 := Nat.lt_of_le_of_lt (Nat.le_trans (Nat.le_add_left n sp) h1) (by decide)
  have e1 := nI_clamp b1
  have e2 := nI_clamp b2
  have e3 := nI_clamp b3
  refine va_copyi (ty := .int) hx hb hml hown (hts _ gw_59) (hts _ gw_61) (hts _ gw_60) (hts _ gw_8) hK hP hD hS 3 4 0 0 rfl rfl rfl rfl rfl (nI_pos b1) (nI_pos b2) (nI_pos b3) (by rw [e1, e3]; exact h1) (by rw [e2, e3]; exact h2) (fun i _ => rfl) hfr hlo hdg (fun H1 locs1 hP hD hS => ?_)
  rw [e1, e2, e3] at hP hD
  exact kk H1 locs1 ⟨hP, hD, hS, hK, hA⟩
theorem x_cp32 (hx : p.tables.exec = Jvm.exec) (hb : c.code = cc) (hml : c.maxLocals = ls.size) (hts : ∀ w ∈ GT, w.before args s = true) (hown : s.vm.findClass RX0 = some m.cls) (hw : xW D o cA A s H0 S H locs) {sp dp n : Nat} (h1 : sp + n ≤ 32) (h2 : dp + n ≤ 16) (hfr : 1 ≤ R.frames) (hlo : (rest.map fun v => v.category).sum + (nativeFrameWords "java/lang/System" "arraycopy" 5 + 11) ≤ R.locals) (hdg : decode cc pc = .ok (.invokestatic 108, 3))
    (kk : ∀ (H1 : Heap) (locs1 : List Loc), xW D o cA A s H0 (zA S 2 (va_cpy (S.1 3) (S.1 2) sp dp n)) H1 locs1 → W p l e R s m args below meth c H1 locs1 cells slots Q (F0 m (pc + 3) ls rest)) : W p l e R s m args below meth c H locs cells slots Q (F0 m pc ls (.int (nI n) :: .int (nI dp) :: .ref (o 3) :: .int (nI sp) :: .ref (o 4) :: rest)) := by
  obtain ⟨hP, hD, hS, hK, hA⟩ := hw
  have b1 : sp < 2 ^ 31 := Nat.lt_of_le_of_lt (Nat.le_trans (Nat.le_add_right sp n) h1) (by decide)
  have b2 : dp < 2 ^ 31 := Nat.lt_of_le_of_lt (Nat.le_trans (Nat.le_add_right dp n) h2) (by decide)
  have b3 : n < 2 ^ 31 := Nat.lt_of_le_of_lt (Nat.le_trans (Nat.le_add_left n sp) h1) (by decide)
  have e1 := nI_clamp b1
  have e2 := nI_clamp b2
  have e3 := nI_clamp b3
  refine va_copyi (ty := .int) hx hb hml hown (hts _ gw_59) (hts _ gw_61) (hts _ gw_60) (hts _ gw_8) hK hP hD hS 4 3 0 0 rfl rfl rfl rfl rfl (nI_pos b1) (nI_pos b2) (nI_pos b3) (by rw [e1, e3]; exact h1) (by rw [e2, e3]; exact h2) (fun i _ => rfl) hfr hlo hdg (fun H1 locs1 hP hD hS => ?_)
  rw [e1, e2, e3] at hP hD
  exact kk H1 locs1 ⟨hP, hD, hS, hK, hA⟩
theorem x_cp22 (hx : p.tables.exec = Jvm.exec) (hb : c.code = cc) (hml : c.maxLocals = ls.size) (hts : ∀ w ∈ GT, w.before args s = true) (hown : s.vm.findClass RX0 = some m.cls) (hw : xW D o cA A s H0 S H locs) {sp dp n : Nat} (h1 : sp + n ≤ 16) (h2 : dp + n ≤ 16) (hfr : 1 ≤ R.frames) (hlo : (rest.map fun v => v.category).sum + (nativeFrameWords "java/lang/System" "arraycopy" 5 + 11) ≤ R.locals) (hdg : decode cc pc = .ok (.invokestatic 108, 3))
    (kk : ∀ (H1 : Heap) (locs1 : List Loc), xW D o cA A s H0 (zA S 2 (va_cpy (S.1 2) (S.1 2) sp dp n)) H1 locs1 → W p l e R s m args below meth c H1 locs1 cells slots Q (F0 m (pc + 3) ls rest)) : W p l e R s m args below meth c H locs cells slots Q (F0 m pc ls (.int (nI n) :: .int (nI dp) :: .ref (o 3) :: .int (nI sp) :: .ref (o 3) :: rest)) := by
  obtain ⟨hP, hD, hS, hK, hA⟩ := hw
  have b1 : sp < 2 ^ 31 := Nat.lt_of_le_of_lt (Nat.le_trans (Nat.le_add_right sp n) h1) (by decide)
  have b2 : dp < 2 ^ 31 := Nat.lt_of_le_of_lt (Nat.le_trans (Nat.le_add_right dp n) h2) (by decide)
  have b3 : n < 2 ^ 31 := Nat.lt_of_le_of_lt (Nat.le_trans (Nat.le_add_left n sp) h1) (by decide)
  have e1 := nI_clamp b1
  have e2 := nI_clamp b2
  have e3 := nI_clamp b3
  refine va_copyi (ty := .int) hx hb hml hown (hts _ gw_59) (hts _ gw_61) (hts _ gw_60) (hts _ gw_8) hK hP hD hS 3 3 0 0 rfl rfl rfl rfl rfl (nI_pos b1) (nI_pos b2) (nI_pos b3) (by rw [e1, e3]; exact h1) (by rw [e2, e3]; exact h2) (fun i _ => rfl) hfr hlo hdg (fun H1 locs1 hP hD hS => ?_)
  rw [e1, e2, e3] at hP hD
  exact kk H1 locs1 ⟨hP, hD, hS, hK, hA⟩
end Rows_x
end
section
def mw (o : Nat → Nat) (cA : ClassId) (S : SX) : va_W := [(o 0, .inr (1, [.ref (o 1), .ref (o 2), .ref (o 3), .ref (o 4), .ref (o 5), .int (S.2 0), .int (S.2 1), .int (S.2 2), .int (S.2 3), .int (S.2 4)])), (o 1, .inl (cA, 64, .inl (S.1 0))), (o 2, .inl (cA, 128, .inl (S.1 1))), (o 3, .inl (cA, 32, .inl (S.1 2))), (o 4, .inl (cA, 5, .inl (S.1 3))), (o 5, .inl (cA, 8, .inl (S.1 4)))]
def mA (o : Nat → Nat) (sz : Nat) : Nat → Prop := fun q => (∃ k, k < 6 ∧ q = o k) ∨ sz ≤ q
theorem mw_at {o : Nat → Nat} {cA : ClassId} {S : SX} : ∀ {k : Nat} {q : Nat × va_E}, (mw o cA S)[k]? = some q → k < 6 ∧ q.1 = o k
  | 0, _, h => by have h2 := Option.some.inj h; rw [← h2]; exact ⟨by decide, rfl⟩
  | 1, _, h => by have h2 := Option.some.inj h; rw [← h2]; exact ⟨by decide, rfl⟩
  | 2, _, h => by have h2 := Option.some.inj h; rw [← h2]; exact ⟨by decide, rfl⟩
  | 3, _, h => by have h2 := Option.some.inj h; rw [← h2]; exact ⟨by decide, rfl⟩
  | 4, _, h => by have h2 := Option.some.inj h; rw [← h2]; exact ⟨by decide, rfl⟩
  | 5, _, h => by have h2 := Option.some.inj h; rw [← h2]; exact ⟨by decide, rfl⟩
  | k + 6, _, h => by simp [mw] at h
theorem mw_is {o : Nat → Nat} {cA : ClassId} {S : SX} : ∀ {k : Nat}, k < 6 → ∃ e : va_E, (mw o cA S)[k]? = some (o k, e)
  | 0, _ => ⟨_, rfl⟩
  | 1, _ => ⟨_, rfl⟩
  | 2, _ => ⟨_, rfl⟩
  | 3, _ => ⟨_, rfl⟩
  | 4, _ => ⟨_, rfl⟩
  | 5, _ => ⟨_, rfl⟩
  | k + 6, h => absurd h (by omega)
def mW (D : va_G) (o : Nat → Nat) (cA : ClassId) (A : Nat → Prop) (s : State) (H0 : Heap) (S : SX) (H : Heap) (locs : List Loc) : Prop :=
  va_P D vwCl (mw o cA S) H ∧ va_D A (mw o cA S) ∧ va_S A H0 H locs ∧ va_K D vwCl [(cA, .int)] s ∧ ∀ q, H0.size ≤ q → A q
def mPre (D : va_G) (o : Nat → Nat) (cA : ClassId) (sz : Nat) (S : SX) (U : State) : Prop := U.heap.size = sz ∧ va_P D vwCl (mw o cA S) U.heap ∧ va_K D vwCl [(cA, .int)] U ∧ va_D (fun _ => True) (mw o cA S)
def mPost (D : va_G) (o : Nat → Nat) (cA : ClassId) (sz : Nat) (S : SX) (t : State) : Prop := va_P D vwCl (mw o cA S) t.heap ∧ va_K D vwCl [(cA, .int)] t ∧ va_D (mA o sz) (mw o cA S)
def mQi (D : va_G) (o : Nat → Nat) (cA : ClassId) (sz : Nat) (S1 : SX) (r1 : Int32) : Array Value → State → Outcome → State → Prop := va_Qi (fun (r : Int32) (u : SX) => r = r1 ∧ u = S1) (mPost D o cA sz) (mA o sz)
def mQv (D : va_G) (o : Nat → Nat) (cA : ClassId) (sz : Nat) (S1 : SX) : Array Value → State → Outcome → State → Prop := va_Qv (fun (u : SX) => u = S1) (mPost D o cA sz) (mA o sz)
def mMi (l : Launch) (D : va_G) (o : Nat → Nat) (cA : ClassId) (y : MethodName) (code : ByteArray) (maxL : Nat) (ret : Option FieldType) (d : Nat) (As : List Value) (S S1 : SX) (r1 : Int32) : Prop :=
  ∀ sz : Nat, Met l y (.code y code maxL ret :: GT) (rmD d) (va_Pc As (mPre D o cA sz S)) (mQi D o cA sz S1 r1) 0 0 (mA o sz)
def mMv (l : Launch) (D : va_G) (o : Nat → Nat) (cA : ClassId) (y : MethodName) (code : ByteArray) (maxL : Nat) (d : Nat) (As : List Value) (S S1 : SX) : Prop :=
  ∀ sz : Nat, Met l y (.code y code maxL none :: GT) (rmD d) (va_Pc As (mPre D o cA sz S)) (mQv D o cA sz S1) 0 0 (mA o sz)
theorem mw_ne0 {o : Nat → Nat} {cA : ClassId} {S : SX} {f : Nat → Int32} : ∀ {i : Nat}, i ≠ 1 → (mw o cA S)[i]? = (mw o cA (zA S 0 f))[i]?
  | 0, h => rfl
  | 1, h => absurd rfl h
  | 2, h => rfl
  | 3, h => rfl
  | 4, h => rfl
  | 5, h => rfl
  | i + 6, _ => by simp [mw]
theorem mw_ne1 {o : Nat → Nat} {cA : ClassId} {S : SX} {f : Nat → Int32} : ∀ {i : Nat}, i ≠ 2 → (mw o cA S)[i]? = (mw o cA (zA S 1 f))[i]?
  | 0, h => rfl
  | 1, h => rfl
  | 2, h => absurd rfl h
  | 3, h => rfl
  | 4, h => rfl
  | 5, h => rfl
  | i + 6, _ => by simp [mw]
theorem mw_ne2 {o : Nat → Nat} {cA : ClassId} {S : SX} {f : Nat → Int32} : ∀ {i : Nat}, i ≠ 3 → (mw o cA S)[i]? = (mw o cA (zA S 2 f))[i]?
  | 0, h => rfl
  | 1, h => rfl
  | 2, h => rfl
  | 3, h => absurd rfl h
  | 4, h => rfl
  | 5, h => rfl
  | i + 6, _ => by simp [mw]
theorem mw_ne3 {o : Nat → Nat} {cA : ClassId} {S : SX} {f : Nat → Int32} : ∀ {i : Nat}, i ≠ 4 → (mw o cA S)[i]? = (mw o cA (zA S 3 f))[i]?
  | 0, h => rfl
  | 1, h => rfl
  | 2, h => rfl
  | 3, h => rfl
  | 4, h => absurd rfl h
  | 5, h => rfl
  | i + 6, _ => by simp [mw]
theorem mw_ne4 {o : Nat → Nat} {cA : ClassId} {S : SX} {f : Nat → Int32} : ∀ {i : Nat}, i ≠ 5 → (mw o cA S)[i]? = (mw o cA (zA S 4 f))[i]?
  | 0, h => rfl
  | 1, h => rfl
  | 2, h => rfl
  | 3, h => rfl
  | 4, h => rfl
  | 5, h => absurd rfl h
  | i + 6, _ => by simp [mw]
section Rows_m
variable {p : Program} {l : Launch} {e : Env} {R : Room} {s : State} {m : MethodId} {args : Array Value} {below : List Frame} {meth : Method} {c : Code} {H : Heap} {locs : List Loc} {cells slots : Nat} {Q : State → Prop}
variable {cc : ByteArray} {pc : Nat} {ls : Array Slot} {rest : List Value} {D : va_G} {A : Nat → Prop} {H0 : Heap} {o : Nat → Nat} {cA : ClassId} {S : SX}
theorem m_free (hw : mW D o cA A s H0 S H locs) : ∀ q, mA o H.size q → A q := by
  intro q h
  rcases h with ⟨k, hk, rfl⟩ | h
  · obtain ⟨e, he⟩ := mw_is (o := o) (cA := cA) (S := S) hk
    exact hw.2.1.2 k _ he
  · exact hw.2.2.2.2 q (Nat.le_trans hw.2.2.1.1 h)
theorem m_kept {H1 : Heap} {locs1 : List Loc} (hw : mW D o cA A s H0 S H locs) (hk : ∀ q : Nat, q < H.size → H1[q]? = H[q]?) (hS : va_S A H0 H1 locs1) : mW D o cA A s H0 S H1 locs1 :=
  ⟨hw.1.kept (fun k q hq => hk q.1 (hw.1 k q hq).lt), hw.2.1, hS, hw.2.2.2.1, hw.2.2.2.2⟩
theorem m_met {y : MethodName} {code : ByteArray} {maxL d sz : Nat} {ret : Option FieldType} {As : List Value} {Qc : Array Value → State → Outcome → State → Prop} (hy : plainName y.cls = true) (ho : y.cls = RX1) (hlen : (lg_sl As).length ≤ maxL)
    (body : ∀ (p : Program) (e : Env) (s : State) (m : MethodId) (below : List Frame) (meth : Method) (c : Code) (ls : Array Slot), s.heap.size = sz → p.tables.exec = Jvm.exec → c.code = code → c.maxLocals = maxL → meth.sig.returnType = ret → meth.locks = false → s.vm.findClass RX1 = some m.cls → (∀ w ∈ GT, w.before As.toArray s = true) → lv_has ls maxL (lv_args 0 As) → mW D o cA (mA o s.heap.size) s s.heap S s.heap [] →
      W p l e (rmD d) s m As.toArray below meth c s.heap [] 0 0 (MQ below Qc As.toArray s 0 0 (mA o sz)) (F0 m 0 ls [])) : Met l y (.code y code maxL ret :: GT) (rmD d) (va_Pc As (mPre D o cA sz S)) Qc 0 0 (mA o sz) := by
  refine Met.ofW (cc := code) (maxL := maxL) (ret := ret) hy rfl ?_
  intro p e s m args below meth c s₁ B hml hv
  obtain ⟨rfl, hsz, hP, hK, hD0⟩ := hv
  have hts0 := atoms_spec (ws := Cond.code y code maxL ret :: GT) B.pre
  have hown : s.vm.findClass y.cls = some m.cls := findClass_of_methodNamed B.named
  rw [ho] at hown
  rw [lg_entry_eq]
  exact body p e s m below meth c _ hsz B.exec B.bytes hml B.returns B.notSynchronized hown (fun w h => hts0 w (List.mem_cons_of_mem _ h)) (lv_entry As hlen) ⟨hP, ⟨hD0.1, fun k q hk => Or.inl ⟨k, mw_at hk⟩⟩, va_S.rf, hK, fun q h => Or.inr h⟩
theorem m_reti {r r1 : Int32} {S1 : SX} (hx : p.tables.exec = Jvm.exec) (hb : c.code = cc) (hr : meth.sig.returnType = some .int) (hlocks : meth.locks = false) (hw : mW D o cA (mA o s.heap.size) s s.heap S H locs) (h : r = r1 ∧ S = S1) (hdg : decode cc pc = .ok (.ireturn, 1)) :
    W p l e R s m args below meth c H locs cells slots (MQ below (mQi D o cA s.heap.size S1 r1) args s cells slots (mA o s.heap.size)) (F0 m pc ls [.int r]) := by
  obtain ⟨hP, hD, hS, hK, -⟩ := hw
  exact W.iret (v := r) hx hb hr (fun t ht hW => ⟨⟨r, S, rfl, h, by rw [ht]; exact hP, va_K.moved hW.alike hK, hD⟩, hS.F ht⟩) hS.2.2 hdg hlocks
theorem m_retz {r : Int32} {b : Bool} {S1 : SX} (hx : p.tables.exec = Jvm.exec) (hb : c.code = cc) (hr : meth.sig.returnType = some .boolean) (hlocks : meth.locks = false) (hw : mW D o cA (mA o s.heap.size) s s.heap S H locs) (h : r = bI b ∧ S = S1) (hdg : decode cc pc = .ok (.ireturn, 1)) :
    W p l e R s m args below meth c H locs cells slots (MQ below (mQi D o cA s.heap.size S1 (bI b)) args s cells slots (mA o s.heap.size)) (F0 m pc ls [.int r]) := by
  obtain ⟨hP, hD, hS, hK, -⟩ := hw
  obtain ⟨rfl, h⟩ := h
  exact W.zret (v := bI b) (ty := .boolean) hx hb hr (bI_nar b) (fun t ht hW => ⟨⟨bI b, S, rfl, ⟨rfl, h⟩, by rw [ht]; exact hP, va_K.moved hW.alike hK, hD⟩, hS.F ht⟩) hS.2.2 hdg hlocks
theorem m_retv {S1 : SX} (hx : p.tables.exec = Jvm.exec) (hb : c.code = cc) (hr : meth.sig.returnType = none) (hlocks : meth.locks = false) (hw : mW D o cA (mA o s.heap.size) s s.heap S H locs) (h : S = S1) (hdg : decode cc pc = .ok (.return_, 1)) :
    W p l e R s m args below meth c H locs cells slots (MQ below (mQv D o cA s.heap.size S1) args s cells slots (mA o s.heap.size)) (F0 m pc ls []) := by
  obtain ⟨hP, hD, hS, hK, -⟩ := hw
  exact W.vret hx hb hr (fun t ht hW => ⟨⟨S, rfl, h, by rw [ht]; exact hP, va_K.moved hW.alike hK, hD⟩, hS.F ht⟩) hS.2.2 hdg hlocks
theorem m_cs {y : MethodName} {bytes : ByteArray} {maxL d n index nL : Nat} {ret : Option FieldType} {own : String} {As st0 : List Value} {r1 : Int32} (F : CallFix p m c cc nL s args GT own) (hM : sM l y bytes maxL ret d As r1)
    (cw : CallB R s args own index y bytes maxL ret (.code y bytes maxL ret :: GT) (rmD d) 0 0 n ∧ (Cond.static y).before args s = true) (hw : mW D o cA A s H0 S H locs) (hn : As.length = n) (hsize : ls.size = nL) (hst : st0 = As.reverse ++ rest) (hr : (rest.map fun v => v.category).sum ≤ 8) (hdg : decode cc pc = .ok (.invokestatic index, 3)) (hf : cells ≤ R.cells ∧ slots ≤ R.slots)
    (kk : ∀ (H1 : Heap) (locs1 : List Loc), mW D o cA A s H0 S H1 locs1 → W p l e R s m args below meth c H1 locs1 cells slots Q (F0 m (pc + 3) ls (.int r1 :: rest))) : W p l e R s m args below meth c H locs cells slots Q (F0 m pc ls st0) :=
  s_call F hM cw hn hsize hst hr hdg hf hw.2.2.1 (fun H1 locs1 _ hk hS => kk H1 locs1 (m_kept hw hk hS))
theorem m_ciF {y : MethodName} {bytes : ByteArray} {maxL d n index nL : Nat} {ret : Option FieldType} {own : String} {As st0 : List Value} {r1 : Int32} {S1 : SX} (F : CallFix p m c cc nL s args GT own) (hM : mMi l D o cA y bytes maxL ret d (.ref (o 0) :: As) S S1 r1)
    (cw : CallW R s args own RX1 index y bytes maxL ret (.code y bytes maxL ret :: GT) (rmD d) 0 0 n) (hw : mW D o cA A s H0 S H locs) (hn : As.length = n) (hsize : ls.size = nL) (hst : st0 = As.reverse ++ .ref (o 0) :: rest) (hr : (rest.map fun v => v.category).sum ≤ 8) (hdg : decode cc pc = .ok (.invokevirtual index, 3)) (hf : cells ≤ R.cells ∧ slots ≤ R.slots)
    (kk : ∀ (H1 : Heap) (locs1 : List Loc), mW D o cA A s H0 S1 H1 locs1 → H.size ≤ H1.size → (∀ q : Nat, q < H.size → ¬ mA o H.size q → H1[q]? = H[q]?) → W p l e R s m args below meth c H1 locs1 cells slots Q (F0 m (pc + 3) ls (.int r1 :: rest))) : W p l e R s m args below meth c H locs cells slots Q (F0 m pc ls st0) := by
  subst hst
  obtain ⟨hP, hD, hS, hK, hA⟩ := id hw
  refine va_calli (va_runV (As := As) (rest := rest) F (hM H.size) cw ⟨fun a U g mk q => ?_, ?_, fun U hU hW => ⟨rfl, by rw [hU], by rw [hU]; exact hP, va_K.moved hW.alike hK, hD.weaken (fun _ _ _ _ => trivial)⟩⟩ rfl hn hsize rfl (lv_room hr) hdg ⟨hf.1, hf.2⟩) hS (fun q _ h => m_free hw q h) (m_free hw) (fun r u t H1 locs1 ht hvm hp hB hz1 hk1 hS1 => ?_)
  · obtain ⟨q0, q1, qP, qK, qD⟩ := q
    exact ⟨q0, q1, qP, va_K.moved (u := U) (U := U.calling g mk a) (Vm.Alike.refl U.vm) qK, qD⟩
  · exact va_recv hK hP (show vwCl[1]? = some (RX1, TX1, 10) from rfl) (show (mw o cA S)[0]? = _ from rfl)
  · obtain ⟨rfl, rfl⟩ := hp
    obtain ⟨hP1, hK1, hD1⟩ := hB
    rw [ht] at hP1
    exact kk H1 locs1 ⟨hP1, hD1.weaken (fun k q hk h => m_free hw _ h), hS1, hK, hA⟩ hz1 hk1
theorem m_ci {y : MethodName} {bytes : ByteArray} {maxL d n index nL : Nat} {ret : Option FieldType} {own : String} {As st0 : List Value} {r1 : Int32} {S1 : SX} (F : CallFix p m c cc nL s args GT own) (hM : mMi l D o cA y bytes maxL ret d (.ref (o 0) :: As) S S1 r1)
    (cw : CallW R s args own RX1 index y bytes maxL ret (.code y bytes maxL ret :: GT) (rmD d) 0 0 n) (hw : mW D o cA A s H0 S H locs) (hn : As.length = n) (hsize : ls.size = nL) (hst : st0 = As.reverse ++ .ref (o 0) :: rest) (hr : (rest.map fun v => v.category).sum ≤ 8) (hdg : decode cc pc = .ok (.invokevirtual index, 3)) (hf : cells ≤ R.cells ∧ slots ≤ R.slots)
    (kk : ∀ (H1 : Heap) (locs1 : List Loc), mW D o cA A s H0 S1 H1 locs1 → W p l e R s m args below meth c H1 locs1 cells slots Q (F0 m (pc + 3) ls (.int r1 :: rest))) : W p l e R s m args below meth c H locs cells slots Q (F0 m pc ls st0) :=
  m_ciF F hM cw hw hn hsize hst hr hdg hf (fun H1 locs1 h _ _ => kk H1 locs1 h)
theorem m_cvF {y : MethodName} {bytes : ByteArray} {maxL d n index nL : Nat} {own : String} {As st0 : List Value} {S1 : SX} (F : CallFix p m c cc nL s args GT own) (hM : mMv l D o cA y bytes maxL d (.ref (o 0) :: As) S S1)
    (cw : CallW R s args own RX1 index y bytes maxL none (.code y bytes maxL none :: GT) (rmD d) 0 0 n) (hw : mW D o cA A s H0 S H locs) (hn : As.length = n) (hsize : ls.size = nL) (hst : st0 = As.reverse ++ .ref (o 0) :: rest) (hr : (rest.map fun v => v.category).sum ≤ 8) (hdg : decode cc pc = .ok (.invokevirtual index, 3)) (hf : cells ≤ R.cells ∧ slots ≤ R.slots)
    (kk : ∀ (H1 : Heap) (locs1 : List Loc), mW D o cA A s H0 S1 H1 locs1 → H.size ≤ H1.size → (∀ q : Nat, q < H.size → ¬ mA o H.size q → H1[q]? = H[q]?) → W p l e R s m args below meth c H1 locs1 cells slots Q (F0 m (pc + 3) ls rest)) : W p l e R s m args below meth c H locs cells slots Q (F0 m pc ls st0) := by
  subst hst
  obtain ⟨hP, hD, hS, hK, hA⟩ := id hw
  refine va_callv (va_runV (As := As) (rest := rest) F (hM H.size) cw ⟨fun a U g mk q => ?_, ?_, fun U hU hW => ⟨rfl, by rw [hU], by rw [hU]; exact hP, va_K.moved hW.alike hK, hD.weaken (fun _ _ _ _ => trivial)⟩⟩ rfl hn hsize rfl (lv_room hr) hdg ⟨hf.1, hf.2⟩) hS (fun q _ h => m_free hw q h) (m_free hw) (fun u t H1 locs1 ht hvm hp hB hz1 hk1 hS1 => ?_)
  · obtain ⟨q0, q1, qP, qK, qD⟩ := q
    exact ⟨q0, q1, qP, va_K.moved (u := U) (U := U.calling g mk a) (Vm.Alike.refl U.vm) qK, qD⟩
  · exact va_recv hK hP (show vwCl[1]? = some (RX1, TX1, 10) from rfl) (show (mw o cA S)[0]? = _ from rfl)
  · obtain rfl := hp
    obtain ⟨hP1, hK1, hD1⟩ := hB
    rw [ht] at hP1
    exact kk H1 locs1 ⟨hP1, hD1.weaken (fun k q hk h => m_free hw _ h), hS1, hK, hA⟩ hz1 hk1
theorem m_cv {y : MethodName} {bytes : ByteArray} {maxL d n index nL : Nat} {own : String} {As st0 : List Value} {S1 : SX} (F : CallFix p m c cc nL s args GT own) (hM : mMv l D o cA y bytes maxL d (.ref (o 0) :: As) S S1)
    (cw : CallW R s args own RX1 index y bytes maxL none (.code y bytes maxL none :: GT) (rmD d) 0 0 n) (hw : mW D o cA A s H0 S H locs) (hn : As.length = n) (hsize : ls.size = nL) (hst : st0 = As.reverse ++ .ref (o 0) :: rest) (hr : (rest.map fun v => v.category).sum ≤ 8) (hdg : decode cc pc = .ok (.invokevirtual index, 3)) (hf : cells ≤ R.cells ∧ slots ≤ R.slots)
    (kk : ∀ (H1 : Heap) (locs1 : List Loc), mW D o cA A s H0 S1 H1 locs1 → W p l e R s m args below meth c H1 locs1 cells slots Q (F0 m (pc + 3) ls rest)) : W p l e R s m args below meth c H locs cells slots Q (F0 m pc ls st0) :=
  m_cvF F hM cw hw hn hsize hst hr hdg hf (fun H1 locs1 h _ _ => kk H1 locs1 h)
theorem m_g0 (hx : p.tables.exec = Jvm.exec) (hb : c.code = cc) (hts : ∀ w ∈ GT, w.before args s = true) (hown : s.vm.findClass RX1 = some m.cls) (hw : mW D o cA A s H0 S H locs) (hdg : decode cc pc = .ok (.getfield 7, 3)) (kk : W p l e R s m args below meth c H locs cells slots Q (F0 m (pc + 3) ls (.ref (o 1) :: rest))) : W p l e R s m args below meth c H locs cells slots Q (F0 m pc ls (.ref (o 0) :: rest)) :=
  va_get (D := D) (ci := 1) (v := .ref (o 1)) (C := RX1) (T := TX1) (N := 10) hx hb hts inX1 hown hw.2.2.2.1 hw.1 0 rfl rfl 0 (by decide) (hts (.fieldLink RX1 7 "SnoopBusModel" "states" "[I") gw_178) (fun _ h9 => h9) rfl hdg kk
theorem m_l0 (hx : p.tables.exec = Jvm.exec) (hb : c.code = cc) (hw : mW D o cA A s H0 S H locs) {n : Nat} (hn : n < 64) (hdg : decode cc pc = .ok (.iaload, 1)) (kk : W p l e R s m args below meth c H locs cells slots Q (F0 m (pc + 1) ls (.int (S.1 0 n) :: rest))) : W p l e R s m args below meth c H locs cells slots Q (F0 m pc ls (.int (nI n) :: .ref (o 1) :: rest)) := by
  refine va_iald hx hb hw.2.2.2.1 hw.1 1 0 rfl rfl (vp_in_nI hn (by decide)) hdg ?_
  rw [nI_clamp (Nat.lt_trans hn (by decide))]
  exact kk
theorem m_s0 (hx : p.tables.exec = Jvm.exec) (hb : c.code = cc) (hw : mW D o cA A s H0 S H locs) {n : Nat} {x : Int32} (hn : n < 64) (hdg : decode cc pc = .ok (.iastore, 1)) (kk : ∀ (H1 : Heap) (locs1 : List Loc), mW D o cA A s H0 (zA S 0 (upd (S.1 0) n x)) H1 locs1 → W p l e R s m args below meth c H1 locs1 cells slots Q (F0 m (pc + 1) ls rest)) : W p l e R s m args below meth c H locs cells slots Q (F0 m pc ls (.int x :: .int (nI n) :: .ref (o 1) :: rest)) := by
  obtain ⟨hP, hD, hS, hK, hA⟩ := hw
  refine va_iast hx hb hK hP hD hS 1 0 rfl rfl (vp_in_nI hn (by decide)) hdg (fun H1 locs1 hP hD hS => ?_)
  rw [nI_clamp (Nat.lt_trans hn (by decide))] at hP hD
  exact kk H1 locs1 ⟨hP, hD, hS, hK, hA⟩
theorem m_r0 {f : Nat → Int32} {H1 : Heap} {locs1 : List Loc} (hw : mW D o cA A s H0 S H locs) (hc : H1[o 1]? = some (vp_cell cA (64, .inl f))) (hk : ∀ q : Nat, q < H.size → q ≠ o 1 → H1[q]? = H[q]?) (hS : va_S A H0 H1 locs1) : mW D o cA A s H0 (zA S 0 f) H1 locs1 := by
  obtain ⟨hP, hD, -, hK, hA⟩ := hw
  refine ⟨fun i q hq => ?_, ⟨fun i j p q hp hq e => ?_, fun i q hq => ?_⟩, hS, hK, hA⟩
  · by_cases hi : i = 1
    · subst hi
      have h2 := Option.some.inj hq
      rw [← h2]
      exact hc
    · have hq2 : (mw o cA S)[i]? = some q := by
        rw [← hq]
        exact mw_ne0 hi
      refine (hP i q hq2).kept (hk q.1 (hP i q hq2).lt (fun e => hi ?_))
      exact hD.1 i 1 q _ hq2 (show (mw o cA S)[1]? = some (o 1, _) from rfl) e
  · obtain ⟨e1, p1⟩ := mw_is (o := o) (cA := cA) (S := S) (mw_at hp).1
    obtain ⟨e2, p2⟩ := mw_is (o := o) (cA := cA) (S := S) (mw_at hq).1
    exact hD.1 i j _ _ p1 p2 (by rw [← (mw_at hp).2, ← (mw_at hq).2]; exact e)
  · obtain ⟨e1, p1⟩ := mw_is (o := o) (cA := cA) (S := S) (mw_at hq).1
    rw [(mw_at hq).2]
    exact hD.2 i _ p1
theorem m_e0 {f : Nat → Int32} (hw : mW D o cA A s H0 S H locs) (h : ∀ j, j < 64 → S.1 0 j = f j) : mW D o cA A s H0 (zA S 0 f) H locs := by
  refine m_r0 hw ?_ (fun q _ _ => rfl) hw.2.2.1
  rw [← arr_congr h]
  exact hw.1 1 _ rfl
theorem m_g1 (hx : p.tables.exec = Jvm.exec) (hb : c.code = cc) (hts : ∀ w ∈ GT, w.before args s = true) (hown : s.vm.findClass RX1 = some m.cls) (hw : mW D o cA A s H0 S H locs) (hdg : decode cc pc = .ok (.getfield 13, 3)) (kk : W p l e R s m args below meth c H locs cells slots Q (F0 m (pc + 3) ls (.ref (o 2) :: rest))) : W p l e R s m args below meth c H locs cells slots Q (F0 m pc ls (.ref (o 0) :: rest)) :=
  va_get (D := D) (ci := 1) (v := .ref (o 2)) (C := RX1) (T := TX1) (N := 10) hx hb hts inX1 hown hw.2.2.2.1 hw.1 0 rfl rfl 1 (by decide) (hts (.fieldLink RX1 13 "SnoopBusModel" "words" "[I") gw_179) (fun _ h9 => h9) rfl hdg kk
theorem m_l1 (hx : p.tables.exec = Jvm.exec) (hb : c.code = cc) (hw : mW D o cA A s H0 S H locs) {n : Nat} (hn : n < 128) (hdg : decode cc pc = .ok (.iaload, 1)) (kk : W p l e R s m args below meth c H locs cells slots Q (F0 m (pc + 1) ls (.int (S.1 1 n) :: rest))) : W p l e R s m args below meth c H locs cells slots Q (F0 m pc ls (.int (nI n) :: .ref (o 2) :: rest)) := by
  refine va_iald hx hb hw.2.2.2.1 hw.1 2 0 rfl rfl (vp_in_nI hn (by decide)) hdg ?_
  rw [nI_clamp (Nat.lt_trans hn (by decide))]
  exact kk
theorem m_s1 (hx : p.tables.exec = Jvm.exec) (hb : c.code = cc) (hw : mW D o cA A s H0 S H locs) {n : Nat} {x : Int32} (hn : n < 128) (hdg : decode cc pc = .ok (.iastore, 1)) (kk : ∀ (H1 : Heap) (locs1 : List Loc), mW D o cA A s H0 (zA S 1 (upd (S.1 1) n x)) H1 locs1 → W p l e R s m args below meth c H1 locs1 cells slots Q (F0 m (pc + 1) ls rest)) : W p l e R s m args below meth c H locs cells slots Q (F0 m pc ls (.int x :: .int (nI n) :: .ref (o 2) :: rest)) := by
  obtain ⟨hP, hD, hS, hK, hA⟩ := hw
  refine va_iast hx hb hK hP hD hS 2 0 rfl rfl (vp_in_nI hn (by decide)) hdg (fun H1 locs1 hP hD hS => ?_)
  rw [nI_clamp (Nat.lt_trans hn (by decide))] at hP hD
  exact kk H1 locs1 ⟨hP, hD, hS, hK, hA⟩
theorem m_r1 {f : Nat → Int32} {H1 : Heap} {locs1 : List Loc} (hw : mW D o cA A s H0 S H locs) (hc : H1[o 2]? = some (vp_cell cA (128, .inl f))) (hk : ∀ q : Nat, q < H.size → q ≠ o 2 → H1[q]? = H[q]?) (hS : va_S A H0 H1 locs1) : mW D o cA A s H0 (zA S 1 f) H1 locs1 := by
  obtain ⟨hP, hD, -, hK, hA⟩ := hw
  refine ⟨fun i q hq => ?_, ⟨fun i j p q hp hq e => ?_, fun i q hq => ?_⟩, hS, hK, hA⟩
  · by_cases hi : i = 2
    · subst hi
      have h2 := Option.some.inj hq
      rw [← h2]
      exact hc
    · have hq2 : (mw o cA S)[i]? = some q := by
        rw [← hq]
        exact mw_ne1 hi
      refine (hP i q hq2).kept (hk q.1 (hP i q hq2).lt (fun e => hi ?_))
      exact hD.1 i 2 q _ hq2 (show (mw o cA S)[2]? = some (o 2, _) from rfl) e
  · obtain ⟨e1, p1⟩ := mw_is (o := o) (cA := cA) (S := S) (mw_at hp).1
    obtain ⟨e2, p2⟩ := mw_is (o := o) (cA := cA) (S := S) (mw_at hq).1
    exact hD.1 i j _ _ p1 p2 (by rw [← (mw_at hp).2, ← (mw_at hq).2]; exact e)
  · obtain ⟨e1, p1⟩ := mw_is (o := o) (cA := cA) (S := S) (mw_at hq).1
    rw [(mw_at hq).2]
    exact hD.2 i _ p1
theorem m_e1 {f : Nat → Int32} (hw : mW D o cA A s H0 S H locs) (h : ∀ j, j < 128 → S.1 1 j = f j) : mW D o cA A s H0 (zA S 1 f) H locs := by
  refine m_r1 hw ?_ (fun q _ _ => rfl) hw.2.2.1
  rw [← arr_congr h]
  exact hw.1 2 _ rfl
theorem m_g2 (hx : p.tables.exec = Jvm.exec) (hb : c.code = cc) (hts : ∀ w ∈ GT, w.before args s = true) (hown : s.vm.findClass RX1 = some m.cls) (hw : mW D o cA A s H0 S H locs) (hdg : decode cc pc = .ok (.getfield 16, 3)) (kk : W p l e R s m args below meth c H locs cells slots Q (F0 m (pc + 3) ls (.ref (o 3) :: rest))) : W p l e R s m args below meth c H locs cells slots Q (F0 m pc ls (.ref (o 0) :: rest)) :=
  va_get (D := D) (ci := 1) (v := .ref (o 3)) (C := RX1) (T := TX1) (N := 10) hx hb hts inX1 hown hw.2.2.2.1 hw.1 0 rfl rfl 2 (by decide) (hts (.fieldLink RX1 16 "SnoopBusModel" "memory" "[I") gw_180) (fun _ h9 => h9) rfl hdg kk
theorem m_l2 (hx : p.tables.exec = Jvm.exec) (hb : c.code = cc) (hw : mW D o cA A s H0 S H locs) {n : Nat} (hn : n < 32) (hdg : decode cc pc = .ok (.iaload, 1)) (kk : W p l e R s m args below meth c H locs cells slots Q (F0 m (pc + 1) ls (.int (S.1 2 n) :: rest))) : W p l e R s m args below meth c H locs cells slots Q (F0 m pc ls (.int (nI n) :: .ref (o 3) :: rest)) := by
  refine va_iald hx hb hw.2.2.2.1 hw.1 3 0 rfl rfl (vp_in_nI hn (by decide)) hdg ?_
  rw [nI_clamp (Nat.lt_trans hn (by decide))]
  exact kk
theorem m_s2 (hx : p.tables.exec = Jvm.exec) (hb : c.code = cc) (hw : mW D o cA A s H0 S H locs) {n : Nat} {x : Int32} (hn : n < 32) (hdg : decode cc pc = .ok (.iastore, 1)) (kk : ∀ (H1 : Heap) (locs1 : List Loc), mW D o cA A s H0 (zA S 2 (upd (S.1 2) n x)) H1 locs1 → W p l e R s m args below meth c H1 locs1 cells slots Q (F0 m (pc + 1) ls rest)) : W p l e R s m args below meth c H locs cells slots Q (F0 m pc ls (.int x :: .int (nI n) :: .ref (o 3) :: rest)) := by
  obtain ⟨hP, hD, hS, hK, hA⟩ := hw
  refine va_iast hx hb hK hP hD hS 3 0 rfl rfl (vp_in_nI hn (by decide)) hdg (fun H1 locs1 hP hD hS => ?_)
  rw [nI_clamp (Nat.lt_trans hn (by decide))] at hP hD
  exact kk H1 locs1 ⟨hP, hD, hS, hK, hA⟩
theorem m_r2 {f : Nat → Int32} {H1 : Heap} {locs1 : List Loc} (hw : mW D o cA A s H0 S H locs) (hc : H1[o 3]? = some (vp_cell cA (32, .inl f))) (hk : ∀ q : Nat, q < H.size → q ≠ o 3 → H1[q]? = H[q]?) (hS : va_S A H0 H1 locs1) : mW D o cA A s H0 (zA S 2 f) H1 locs1 := by
  obtain ⟨hP, hD, -, hK, hA⟩ := hw
  refine ⟨fun i q hq => ?_, ⟨fun i j p q hp hq e => ?_, fun i q hq => ?_⟩, hS, hK, hA⟩
  · by_cases hi : i = 3
    · subst hi
      have h2 := Option.some.inj hq
      rw [← h2]
      exact hc
    · have hq2 : (mw o cA S)[i]? = some q := by
        rw [← hq]
        exact mw_ne2 hi
      refine (hP i q hq2).kept (hk q.1 (hP i q hq2).lt (fun e => hi ?_))
      exact hD.1 i 3 q _ hq2 (show (mw o cA S)[3]? = some (o 3, _) from rfl) e
  · obtain ⟨e1, p1⟩ := mw_is (o := o) (cA := cA) (S := S) (mw_at hp).1
    obtain ⟨e2, p2⟩ := mw_is (o := o) (cA := cA) (S := S) (mw_at hq).1
    exact hD.1 i j _ _ p1 p2 (by rw [← (mw_at hp).2, ← (mw_at hq).2]; exact e)
  · obtain ⟨e1, p1⟩ := mw_is (o := o) (cA := cA) (S := S) (mw_at hq).1
    rw [(mw_at hq).2]
    exact hD.2 i _ p1
theorem m_e2 {f : Nat → Int32} (hw : mW D o cA A s H0 S H locs) (h : ∀ j, j < 32 → S.1 2 j = f j) : mW D o cA A s H0 (zA S 2 f) H locs := by
  refine m_r2 hw ?_ (fun q _ _ => rfl) hw.2.2.1
  rw [← arr_congr h]
  exact hw.1 3 _ rfl
theorem m_g3 (hx : p.tables.exec = Jvm.exec) (hb : c.code = cc) (hts : ∀ w ∈ GT, w.before args s = true) (hown : s.vm.findClass RX1 = some m.cls) (hw : mW D o cA A s H0 S H locs) (hdg : decode cc pc = .ok (.getfield 19, 3)) (kk : W p l e R s m args below meth c H locs cells slots Q (F0 m (pc + 3) ls (.ref (o 4) :: rest))) : W p l e R s m args below meth c H locs cells slots Q (F0 m pc ls (.ref (o 0) :: rest)) :=
  va_get (D := D) (ci := 1) (v := .ref (o 4)) (C := RX1) (T := TX1) (N := 10) hx hb hts inX1 hown hw.2.2.2.1 hw.1 0 rfl rfl 3 (by decide) (hts (.fieldLink RX1 19 "SnoopBusModel" "counts" "[I") gw_181) (fun _ h9 => h9) rfl hdg kk
theorem m_l3 (hx : p.tables.exec = Jvm.exec) (hb : c.code = cc) (hw : mW D o cA A s H0 S H locs) {n : Nat} (hn : n < 5) (hdg : decode cc pc = .ok (.iaload, 1)) (kk : W p l e R s m args below meth c H locs cells slots Q (F0 m (pc + 1) ls (.int (S.1 3 n) :: rest))) : W p l e R s m args below meth c H locs cells slots Q (F0 m pc ls (.int (nI n) :: .ref (o 4) :: rest)) := by
  refine va_iald hx hb hw.2.2.2.1 hw.1 4 0 rfl rfl (vp_in_nI hn (by decide)) hdg ?_
  rw [nI_clamp (Nat.lt_trans hn (by decide))]
  exact kk
theorem m_s3 (hx : p.tables.exec = Jvm.exec) (hb : c.code = cc) (hw : mW D o cA A s H0 S H locs) {n : Nat} {x : Int32} (hn : n < 5) (hdg : decode cc pc = .ok (.iastore, 1)) (kk : ∀ (H1 : Heap) (locs1 : List Loc), mW D o cA A s H0 (zA S 3 (upd (S.1 3) n x)) H1 locs1 → W p l e R s m args below meth c H1 locs1 cells slots Q (F0 m (pc + 1) ls rest)) : W p l e R s m args below meth c H locs cells slots Q (F0 m pc ls (.int x :: .int (nI n) :: .ref (o 4) :: rest)) := by
  obtain ⟨hP, hD, hS, hK, hA⟩ := hw
  refine va_iast hx hb hK hP hD hS 4 0 rfl rfl (vp_in_nI hn (by decide)) hdg (fun H1 locs1 hP hD hS => ?_)
  rw [nI_clamp (Nat.lt_trans hn (by decide))] at hP hD
  exact kk H1 locs1 ⟨hP, hD, hS, hK, hA⟩
theorem m_r3 {f : Nat → Int32} {H1 : Heap} {locs1 : List Loc} (hw : mW D o cA A s H0 S H locs) (hc : H1[o 4]? = some (vp_cell cA (5, .inl f))) (hk : ∀ q : Nat, q < H.size → q ≠ o 4 → H1[q]? = H[q]?) (hS : va_S A H0 H1 locs1) : mW D o cA A s H0 (zA S 3 f) H1 locs1 := by
  obtain ⟨hP, hD, -, hK, hA⟩ := hw
  refine ⟨fun i q hq => ?_, ⟨fun i j p q hp hq e => ?_, fun i q hq => ?_⟩, hS, hK, hA⟩
  · by_cases hi : i = 4
    · subst hi
      have h2 := Option.some.inj hq
      rw [← h2]
      exact hc
    · have hq2 : (mw o cA S)[i]? = some q := by
        rw [← hq]
        exact mw_ne3 hi
      refine (hP i q hq2).kept (hk q.1 (hP i q hq2).lt (fun e => hi ?_))
      exact hD.1 i 4 q _ hq2 (show (mw o cA S)[4]? = some (o 4, _) from rfl) e
  · obtain ⟨e1, p1⟩ := mw_is (o := o) (cA := cA) (S := S) (mw_at hp).1
    obtain ⟨e2, p2⟩ := mw_is (o := o) (cA := cA) (S := S) (mw_at hq).1
    exact hD.1 i j _ _ p1 p2 (by rw [← (mw_at hp).2, ← (mw_at hq).2]; exact e)
  · obtain ⟨e1, p1⟩ := mw_is (o := o) (cA := cA) (S := S) (mw_at hq).1
    rw [(mw_at hq).2]
    exact hD.2 i _ p1
theorem m_e3 {f : Nat → Int32} (hw : mW D o cA A s H0 S H locs) (h : ∀ j, j < 5 → S.1 3 j = f j) : mW D o cA A s H0 (zA S 3 f) H locs := by
  refine m_r3 hw ?_ (fun q _ _ => rfl) hw.2.2.1
  rw [← arr_congr h]
  exact hw.1 4 _ rfl
theorem m_g4 (hx : p.tables.exec = Jvm.exec) (hb : c.code = cc) (hts : ∀ w ∈ GT, w.before args s = true) (hown : s.vm.findClass RX1 = some m.cls) (hw : mW D o cA A s H0 S H locs) (hdg : decode cc pc = .ok (.getfield 22, 3)) (kk : W p l e R s m args below meth c H locs cells slots Q (F0 m (pc + 3) ls (.ref (o 5) :: rest))) : W p l e R s m args below meth c H locs cells slots Q (F0 m pc ls (.ref (o 0) :: rest)) :=
  va_get (D := D) (ci := 1) (v := .ref (o 5)) (C := RX1) (T := TX1) (N := 10) hx hb hts inX1 hown hw.2.2.2.1 hw.1 0 rfl rfl 4 (by decide) (hts (.fieldLink RX1 22 "SnoopBusModel" "last" "[I") gw_182) (fun _ h9 => h9) rfl hdg kk
theorem m_l4 (hx : p.tables.exec = Jvm.exec) (hb : c.code = cc) (hw : mW D o cA A s H0 S H locs) {n : Nat} (hn : n < 8) (hdg : decode cc pc = .ok (.iaload, 1)) (kk : W p l e R s m args below meth c H locs cells slots Q (F0 m (pc + 1) ls (.int (S.1 4 n) :: rest))) : W p l e R s m args below meth c H locs cells slots Q (F0 m pc ls (.int (nI n) :: .ref (o 5) :: rest)) := by
  refine va_iald hx hb hw.2.2.2.1 hw.1 5 0 rfl rfl (vp_in_nI hn (by decide)) hdg ?_
  rw [nI_clamp (Nat.lt_trans hn (by decide))]
  exact kk
theorem m_s4 (hx : p.tables.exec = Jvm.exec) (hb : c.code = cc) (hw : mW D o cA A s H0 S H locs) {n : Nat} {x : Int32} (hn : n < 8) (hdg : decode cc pc = .ok (.iastore, 1)) (kk : ∀ (H1 : Heap) (locs1 : List Loc), mW D o cA A s H0 (zA S 4 (upd (S.1 4) n x)) H1 locs1 → W p l e R s m args below meth c H1 locs1 cells slots Q (F0 m (pc + 1) ls rest)) : W p l e R s m args below meth c H locs cells slots Q (F0 m pc ls (.int x :: .int (nI n) :: .ref (o 5) :: rest)) := by
  obtain ⟨hP, hD, hS, hK, hA⟩ := hw
  refine va_iast hx hb hK hP hD hS 5 0 rfl rfl (vp_in_nI hn (by decide)) hdg (fun H1 locs1 hP hD hS => ?_)
  rw [nI_clamp (Nat.lt_trans hn (by decide))] at hP hD
  exact kk H1 locs1 ⟨hP, hD, hS, hK, hA⟩
theorem m_r4 {f : Nat → Int32} {H1 : Heap} {locs1 : List Loc} (hw : mW D o cA A s H0 S H locs) (hc : H1[o 5]? = some (vp_cell cA (8, .inl f))) (hk : ∀ q : Nat, q < H.size → q ≠ o 5 → H1[q]? = H[q]?) (hS : va_S A H0 H1 locs1) : mW D o cA A s H0 (zA S 4 f) H1 locs1 := by
  obtain ⟨hP, hD, -, hK, hA⟩ := hw
  refine ⟨fun i q hq => ?_, ⟨fun i j p q hp hq e => ?_, fun i q hq => ?_⟩, hS, hK, hA⟩
  · by_cases hi : i = 5
    · subst hi
      have h2 := Option.some.inj hq
      rw [← h2]
      exact hc
    · have hq2 : (mw o cA S)[i]? = some q := by
        rw [← hq]
        exact mw_ne4 hi
      refine (hP i q hq2).kept (hk q.1 (hP i q hq2).lt (fun e => hi ?_))
      exact hD.1 i 5 q _ hq2 (show (mw o cA S)[5]? = some (o 5, _) from rfl) e
  · obtain ⟨e1, p1⟩ := mw_is (o := o) (cA := cA) (S := S) (mw_at hp).1
    obtain ⟨e2, p2⟩ := mw_is (o := o) (cA := cA) (S := S) (mw_at hq).1
    exact hD.1 i j _ _ p1 p2 (by rw [← (mw_at hp).2, ← (mw_at hq).2]; exact e)
  · obtain ⟨e1, p1⟩ := mw_is (o := o) (cA := cA) (S := S) (mw_at hq).1
    rw [(mw_at hq).2]
    exact hD.2 i _ p1
theorem m_e4 {f : Nat → Int32} (hw : mW D o cA A s H0 S H locs) (h : ∀ j, j < 8 → S.1 4 j = f j) : mW D o cA A s H0 (zA S 4 f) H locs := by
  refine m_r4 hw ?_ (fun q _ _ => rfl) hw.2.2.1
  rw [← arr_congr h]
  exact hw.1 5 _ rfl
theorem m_f0 (hx : p.tables.exec = Jvm.exec) (hb : c.code = cc) (hts : ∀ w ∈ GT, w.before args s = true) (hown : s.vm.findClass RX1 = some m.cls) (hw : mW D o cA A s H0 S H locs) (hdg : decode cc pc = .ok (.getfield 25, 3)) (kk : W p l e R s m args below meth c H locs cells slots Q (F0 m (pc + 3) ls (.int (S.2 0) :: rest))) : W p l e R s m args below meth c H locs cells slots Q (F0 m pc ls (.ref (o 0) :: rest)) :=
  va_get (D := D) (ci := 1) (v := .int (S.2 0)) (C := RX1) (T := TX1) (N := 10) hx hb hts inX1 hown hw.2.2.2.1 hw.1 0 rfl rfl 5 (by decide) (hts (.fieldLink RX1 25 "SnoopBusModel" "protocol" "I") gw_183) (fun _ h9 => h9) rfl hdg kk
theorem m_p0 (hx : p.tables.exec = Jvm.exec) (hb : c.code = cc) (hts : ∀ w ∈ GT, w.before args s = true) (hown : s.vm.findClass RX1 = some m.cls) (hw : mW D o cA A s H0 S H locs) {x : Int32} (hdg : decode cc pc = .ok (.putfield 25, 3)) (kk : ∀ (H1 : Heap) (locs1 : List Loc), mW D o cA A s H0 (zF S 0 x) H1 locs1 → W p l e R s m args below meth c H1 locs1 cells slots Q (F0 m (pc + 3) ls rest)) : W p l e R s m args below meth c H locs cells slots Q (F0 m pc ls (.int x :: .ref (o 0) :: rest)) := by
  obtain ⟨hP, hD, hS, hK, hA⟩ := hw
  exact va_put (D := D) (ci := 1) (v := .int x) (ty := .int) (C := RX1) (T := TX1) (N := 10) hx hb hts inX1 tyX1 tyX1_ok nmX1 hown hK hP hD hS 0 rfl rfl 5 (by decide) (hts (.fieldLink RX1 25 "SnoopBusModel" "protocol" "I") gw_183) (fun _ h9 => h9) rfl (by decide +kernel) rfl rfl (Nat.le_of_ble_eq_true rfl) hdg (fun H1 locs1 hP hD hS => kk H1 locs1 ⟨hP, hD, hS, hK, hA⟩)
theorem m_f1 (hx : p.tables.exec = Jvm.exec) (hb : c.code = cc) (hts : ∀ w ∈ GT, w.before args s = true) (hown : s.vm.findClass RX1 = some m.cls) (hw : mW D o cA A s H0 S H locs) (hdg : decode cc pc = .ok (.getfield 32, 3)) (kk : W p l e R s m args below meth c H locs cells slots Q (F0 m (pc + 3) ls (.int (S.2 1) :: rest))) : W p l e R s m args below meth c H locs cells slots Q (F0 m pc ls (.ref (o 0) :: rest)) :=
  va_get (D := D) (ci := 1) (v := .int (S.2 1)) (C := RX1) (T := TX1) (N := 10) hx hb hts inX1 hown hw.2.2.2.1 hw.1 0 rfl rfl 6 (by decide) (hts (.fieldLink RX1 32 "SnoopBusModel" "all" "I") gw_184) (fun _ h9 => h9) rfl hdg kk
theorem m_p1 (hx : p.tables.exec = Jvm.exec) (hb : c.code = cc) (hts : ∀ w ∈ GT, w.before args s = true) (hown : s.vm.findClass RX1 = some m.cls) (hw : mW D o cA A s H0 S H locs) {x : Int32} (hdg : decode cc pc = .ok (.putfield 32, 3)) (kk : ∀ (H1 : Heap) (locs1 : List Loc), mW D o cA A s H0 (zF S 1 x) H1 locs1 → W p l e R s m args below meth c H1 locs1 cells slots Q (F0 m (pc + 3) ls rest)) : W p l e R s m args below meth c H locs cells slots Q (F0 m pc ls (.int x :: .ref (o 0) :: rest)) := by
  obtain ⟨hP, hD, hS, hK, hA⟩ := hw
  exact va_put (D := D) (ci := 1) (v := .int x) (ty := .int) (C := RX1) (T := TX1) (N := 10) hx hb hts inX1 tyX1 tyX1_ok nmX1 hown hK hP hD hS 0 rfl rfl 6 (by decide) (hts (.fieldLink RX1 32 "SnoopBusModel" "all" "I") gw_184) (fun _ h9 => h9) rfl (by decide +kernel) rfl rfl (Nat.le_of_ble_eq_true rfl) hdg (fun H1 locs1 hP hD hS => kk H1 locs1 ⟨hP, hD, hS, hK, hA⟩)
theorem m_f2 (hx : p.tables.exec = Jvm.exec) (hb : c.code = cc) (hts : ∀ w ∈ GT, w.before args s = true) (hown : s.vm.findClass RX1 = some m.cls) (hw : mW D o cA A s H0 S H locs) (hdg : decode cc pc = .ok (.getfield 35, 3)) (kk : W p l e R s m args below meth c H locs cells slots Q (F0 m (pc + 3) ls (.int (S.2 2) :: rest))) : W p l e R s m args below meth c H locs cells slots Q (F0 m pc ls (.ref (o 0) :: rest)) :=
  va_get (D := D) (ci := 1) (v := .int (S.2 2)) (C := RX1) (T := TX1) (N := 10) hx hb hts inX1 hown hw.2.2.2.1 hw.1 0 rfl rfl 7 (by decide) (hts (.fieldLink RX1 35 "SnoopBusModel" "hits" "I") gw_185) (fun _ h9 => h9) rfl hdg kk
theorem m_p2 (hx : p.tables.exec = Jvm.exec) (hb : c.code = cc) (hts : ∀ w ∈ GT, w.before args s = true) (hown : s.vm.findClass RX1 = some m.cls) (hw : mW D o cA A s H0 S H locs) {x : Int32} (hdg : decode cc pc = .ok (.putfield 35, 3)) (kk : ∀ (H1 : Heap) (locs1 : List Loc), mW D o cA A s H0 (zF S 2 x) H1 locs1 → W p l e R s m args below meth c H1 locs1 cells slots Q (F0 m (pc + 3) ls rest)) : W p l e R s m args below meth c H locs cells slots Q (F0 m pc ls (.int x :: .ref (o 0) :: rest)) := by
  obtain ⟨hP, hD, hS, hK, hA⟩ := hw
  exact va_put (D := D) (ci := 1) (v := .int x) (ty := .int) (C := RX1) (T := TX1) (N := 10) hx hb hts inX1 tyX1 tyX1_ok nmX1 hown hK hP hD hS 0 rfl rfl 7 (by decide) (hts (.fieldLink RX1 35 "SnoopBusModel" "hits" "I") gw_185) (fun _ h9 => h9) rfl (by decide +kernel) rfl rfl (Nat.le_of_ble_eq_true rfl) hdg (fun H1 locs1 hP hD hS => kk H1 locs1 ⟨hP, hD, hS, hK, hA⟩)
theorem m_f3 (hx : p.tables.exec = Jvm.exec) (hb : c.code = cc) (hts : ∀ w ∈ GT, w.before args s = true) (hown : s.vm.findClass RX1 = some m.cls) (hw : mW D o cA A s H0 S H locs) (hdg : decode cc pc = .ok (.getfield 38, 3)) (kk : W p l e R s m args below meth c H locs cells slots Q (F0 m (pc + 3) ls (.int (S.2 3) :: rest))) : W p l e R s m args below meth c H locs cells slots Q (F0 m pc ls (.ref (o 0) :: rest)) :=
  va_get (D := D) (ci := 1) (v := .int (S.2 3)) (C := RX1) (T := TX1) (N := 10) hx hb hts inX1 hown hw.2.2.2.1 hw.1 0 rfl rfl 8 (by decide) (hts (.fieldLink RX1 38 "SnoopBusModel" "misses" "I") gw_186) (fun _ h9 => h9) rfl hdg kk
theorem m_p3 (hx : p.tables.exec = Jvm.exec) (hb : c.code = cc) (hts : ∀ w ∈ GT, w.before args s = true) (hown : s.vm.findClass RX1 = some m.cls) (hw : mW D o cA A s H0 S H locs) {x : Int32} (hdg : decode cc pc = .ok (.putfield 38, 3)) (kk : ∀ (H1 : Heap) (locs1 : List Loc), mW D o cA A s H0 (zF S 3 x) H1 locs1 → W p l e R s m args below meth c H1 locs1 cells slots Q (F0 m (pc + 3) ls rest)) : W p l e R s m args below meth c H locs cells slots Q (F0 m pc ls (.int x :: .ref (o 0) :: rest)) := by
  obtain ⟨hP, hD, hS, hK, hA⟩ := hw
  exact va_put (D := D) (ci := 1) (v := .int x) (ty := .int) (C := RX1) (T := TX1) (N := 10) hx hb hts inX1 tyX1 tyX1_ok nmX1 hown hK hP hD hS 0 rfl rfl 8 (by decide) (hts (.fieldLink RX1 38 "SnoopBusModel" "misses" "I") gw_186) (fun _ h9 => h9) rfl (by decide +kernel) rfl rfl (Nat.le_of_ble_eq_true rfl) hdg (fun H1 locs1 hP hD hS => kk H1 locs1 ⟨hP, hD, hS, hK, hA⟩)
theorem m_f4 (hx : p.tables.exec = Jvm.exec) (hb : c.code = cc) (hts : ∀ w ∈ GT, w.before args s = true) (hown : s.vm.findClass RX1 = some m.cls) (hw : mW D o cA A s H0 S H locs) (hdg : decode cc pc = .ok (.getfield 29, 3)) (kk : W p l e R s m args below meth c H locs cells slots Q (F0 m (pc + 3) ls (.int (S.2 4) :: rest))) : W p l e R s m args below meth c H locs cells slots Q (F0 m pc ls (.ref (o 0) :: rest)) :=
  va_get (D := D) (ci := 1) (v := .int (S.2 4)) (C := RX1) (T := TX1) (N := 10) hx hb hts inX1 hown hw.2.2.2.1 hw.1 0 rfl rfl 9 (by decide) (hts (.fieldLink RX1 29 "SnoopBusModel" "thrown" "I") gw_187) (fun _ h9 => h9) rfl hdg kk
theorem m_p4 (hx : p.tables.exec = Jvm.exec) (hb : c.code = cc) (hts : ∀ w ∈ GT, w.before args s = true) (hown : s.vm.findClass RX1 = some m.cls) (hw : mW D o cA A s H0 S H locs) {x : Int32} (hdg : decode cc pc = .ok (.putfield 29, 3)) (kk : ∀ (H1 : Heap) (locs1 : List Loc), mW D o cA A s H0 (zF S 4 x) H1 locs1 → W p l e R s m args below meth c H1 locs1 cells slots Q (F0 m (pc + 3) ls rest)) : W p l e R s m args below meth c H locs cells slots Q (F0 m pc ls (.int x :: .ref (o 0) :: rest)) := by
  obtain ⟨hP, hD, hS, hK, hA⟩ := hw
  exact va_put (D := D) (ci := 1) (v := .int x) (ty := .int) (C := RX1) (T := TX1) (N := 10) hx hb hts inX1 tyX1 tyX1_ok nmX1 hown hK hP hD hS 0 rfl rfl 9 (by decide) (hts (.fieldLink RX1 29 "SnoopBusModel" "thrown" "I") gw_187) (fun _ h9 => h9) rfl (by decide +kernel) rfl rfl (Nat.le_of_ble_eq_true rfl) hdg (fun H1 locs1 hP hD hS => kk H1 locs1 ⟨hP, hD, hS, hK, hA⟩)
end Rows_m
end
section
set_option maxRecDepth 100000 in
set_option maxHeartbeats 4000000 in
theorem cx_isProcessor (l : Launch) (x : Int32)  : sM l yX0_isProcessor cX0_isProcessor 1 (some .boolean) 0 [.int x] (bI (inR x 4)) := by
  refine s_met (by decide) rfl (Nat.le_of_ble_eq_true rfl) ?_
  intro P0 e s m below meth c ls hx hb hml hr hlocks hown hts hl hw
  have hl : lv_has ls 1 [(0, .int x)] := hl
  refine lv_iload_n hx hb dX0_isProcessor_0 rfl (lv_at hl 0 rfl) ?_
  refine lv_if_lt (tgt := 13) hx hb dX0_isProcessor_1 (by decide) (fun g1 => ?_) (fun g1 => ?_)
  · refine lv_iconst (v := 0) hx hb dX0_isProcessor_13 (by decide) ?_
    exact s_retz hx hb hr hlocks hw (by simp [inR, bI, g1]) dX0_isProcessor_14
  · refine lv_iload_n hx hb dX0_isProcessor_4 rfl (lv_at hl 0 rfl) ?_
    refine lv_iconst (v := 4) hx hb dX0_isProcessor_5 (by decide) ?_
    refine lv_icmp_ge (tgt := 13) hx hb dX0_isProcessor_6 (by decide) (fun g2 => ?_) (fun g2 => ?_)
    · refine lv_iconst (v := 0) hx hb dX0_isProcessor_13 (by decide) ?_
      exact s_retz hx hb hr hlocks hw (by simp [inR, bI, g1, g2]) dX0_isProcessor_14
    · refine lv_iconst (v := 1) hx hb dX0_isProcessor_9 (by decide) ?_
      refine lv_goto (tgt := 14) hx hb dX0_isProcessor_10 (by decide) ?_
      exact s_retz hx hb hr hlocks hw (by simp [inR, bI, g1, g2]) dX0_isProcessor_14
theorem cwx_isProcessor {R : Room} {s : State} {args : Array Value} (hts : ∀ w ∈ GT, w.before args s = true) (hR : 0 + 1 ≤ R.frames ∧ 8 + (1 + 11) + 40 * 0 ≤ R.locals) : CallB R s args RX0 36 yX0_isProcessor cX0_isProcessor 1 (some .boolean) ((.code yX0_isProcessor cX0_isProcessor 1 (some .boolean) : Cond) :: GT) (rmD 0) 0 0 1 ∧ (Cond.static yX0_isProcessor).before args s = true :=
  va_cwS 1 hts (show GoodIn GT (va_wsS RX0 36 yX0_isProcessor ((.code yX0_isProcessor cX0_isProcessor 1 (some .boolean) : Cond) :: GT)) from lw_gin (lw_gin (lw_gin (lw_gin lw_self gw_68) gw_1) gw_67) gw_66) rfl rfl rfl (by decide +kernel) hR
set_option maxRecDepth 100000 in
set_option maxHeartbeats 4000000 in
theorem cx_isAddress (l : Launch) (x : Int32)  : sM l yX0_isAddress cX0_isAddress 1 (some .boolean) 0 [.int x] (bI (inR x 32)) := by
  refine s_met (by decide) rfl (Nat.le_of_ble_eq_true rfl) ?_
  intro P0 e s m below meth c ls hx hb hml hr hlocks hown hts hl hw
  have hl : lv_has ls 1 [(0, .int x)] := hl
  refine lv_iload_n hx hb dX0_isAddress_0 rfl (lv_at hl 0 rfl) ?_
  refine lv_if_lt (tgt := 14) hx hb dX0_isAddress_1 (by decide) (fun g1 => ?_) (fun g1 => ?_)
  · refine lv_iconst (v := 0) hx hb dX0_isAddress_14 (by decide) ?_
    exact s_retz hx hb hr hlocks hw (by simp [inR, bI, g1]) dX0_isAddress_15
  · refine lv_iload_n hx hb dX0_isAddress_4 rfl (lv_at hl 0 rfl) ?_
    refine lv_bipush (v := 32) hx hb dX0_isAddress_5 (by decide) ?_
    refine lv_icmp_ge (tgt := 14) hx hb dX0_isAddress_7 (by decide) (fun g2 => ?_) (fun g2 => ?_)
    · refine lv_iconst (v := 0) hx hb dX0_isAddress_14 (by decide) ?_
      exact s_retz hx hb hr hlocks hw (by simp [inR, bI, g1, g2]) dX0_isAddress_15
    · refine lv_iconst (v := 1) hx hb dX0_isAddress_10 (by decide) ?_
      refine lv_goto (tgt := 15) hx hb dX0_isAddress_11 (by decide) ?_
      exact s_retz hx hb hr hlocks hw (by simp [inR, bI, g1, g2]) dX0_isAddress_15
theorem cwx_isAddress {R : Room} {s : State} {args : Array Value} (hts : ∀ w ∈ GT, w.before args s = true) (hR : 0 + 1 ≤ R.frames ∧ 8 + (1 + 11) + 40 * 0 ≤ R.locals) : CallB R s args RX0 40 yX0_isAddress cX0_isAddress 1 (some .boolean) ((.code yX0_isAddress cX0_isAddress 1 (some .boolean) : Cond) :: GT) (rmD 0) 0 0 1 ∧ (Cond.static yX0_isAddress).before args s = true :=
  va_cwS 1 hts (show GoodIn GT (va_wsS RX0 40 yX0_isAddress ((.code yX0_isAddress cX0_isAddress 1 (some .boolean) : Cond) :: GT)) from lw_gin (lw_gin (lw_gin (lw_gin lw_self gw_84) gw_1) gw_83) gw_82) rfl rfl rfl (by decide +kernel) hR
set_option maxRecDepth 100000 in
set_option maxHeartbeats 4000000 in
theorem cx_isBlock (l : Launch) (x : Int32)  : sM l yX0_isBlock cX0_isBlock 1 (some .boolean) 0 [.int x] (bI (inR x 16)) := by
  refine s_met (by decide) rfl (Nat.le_of_ble_eq_true rfl) ?_
  intro P0 e s m below meth c ls hx hb hml hr hlocks hown hts hl hw
  have hl : lv_has ls 1 [(0, .int x)] := hl
  refine lv_iload_n hx hb dX0_isBlock_0 rfl (lv_at hl 0 rfl) ?_
  refine lv_if_lt (tgt := 14) hx hb dX0_isBlock_1 (by decide) (fun g1 => ?_) (fun g1 => ?_)
  · refine lv_iconst (v := 0) hx hb dX0_isBlock_14 (by decide) ?_
    exact s_retz hx hb hr hlocks hw (by simp [inR, bI, g1]) dX0_isBlock_15
  · refine lv_iload_n hx hb dX0_isBlock_4 rfl (lv_at hl 0 rfl) ?_
    refine lv_bipush (v := 16) hx hb dX0_isBlock_5 (by decide) ?_
    refine lv_icmp_ge (tgt := 14) hx hb dX0_isBlock_7 (by decide) (fun g2 => ?_) (fun g2 => ?_)
    · refine lv_iconst (v := 0) hx hb dX0_isBlock_14 (by decide) ?_
      exact s_retz hx hb hr hlocks hw (by simp [inR, bI, g1, g2]) dX0_isBlock_15
    · refine lv_iconst (v := 1) hx hb dX0_isBlock_10 (by decide) ?_
      refine lv_goto (tgt := 15) hx hb dX0_isBlock_11 (by decide) ?_
      exact s_retz hx hb hr hlocks hw (by simp [inR, bI, g1, g2]) dX0_isBlock_15
theorem cwx_isBlock {R : Room} {s : State} {args : Array Value} (hts : ∀ w ∈ GT, w.before args s = true) (hR : 0 + 1 ≤ R.frames ∧ 8 + (1 + 11) + 40 * 0 ≤ R.locals) : CallB R s args RX0 76 yX0_isBlock cX0_isBlock 1 (some .boolean) ((.code yX0_isBlock cX0_isBlock 1 (some .boolean) : Cond) :: GT) (rmD 0) 0 0 1 ∧ (Cond.static yX0_isBlock).before args s = true :=
  va_cwS 1 hts (show GoodIn GT (va_wsS RX0 76 yX0_isBlock ((.code yX0_isBlock cX0_isBlock 1 (some .boolean) : Cond) :: GT)) from lw_gin (lw_gin (lw_gin (lw_gin lw_self gw_71) gw_1) gw_70) gw_69) rfl rfl rfl (by decide +kernel) hR
set_option maxRecDepth 100000 in
set_option maxHeartbeats 4000000 in
theorem cx_isDirty (l : Launch) (x : Int32)  : sM l yX0_isDirty cX0_isDirty 1 (some .boolean) 0 [.int x] (bI (xDi x)) := by
  refine s_met (by decide) rfl (Nat.le_of_ble_eq_true rfl) ?_
  intro P0 e s m below meth c ls hx hb hml hr hlocks hown hts hl hw
  have hl : lv_has ls 1 [(0, .int x)] := hl
  refine lv_iload_n hx hb dX0_isDirty_0 rfl (lv_at hl 0 rfl) ?_
  refine lv_iconst (v := 3) hx hb dX0_isDirty_1 (by decide) ?_
  refine lv_icmp_eq (tgt := 10) hx hb dX0_isDirty_2 (by decide) (fun g1 => ?_) (fun g1 => ?_)
  · refine lv_iconst (v := 1) hx hb dX0_isDirty_10 (by decide) ?_
    refine lv_goto (tgt := 15) hx hb dX0_isDirty_11 (by decide) ?_
    exact s_retz hx hb hr hlocks hw (by simp [xDi, bI, g1]) dX0_isDirty_15
  · refine lv_iload_n hx hb dX0_isDirty_5 rfl (lv_at hl 0 rfl) ?_
    refine lv_iconst (v := 4) hx hb dX0_isDirty_6 (by decide) ?_
    refine lv_icmp_ne (tgt := 14) hx hb dX0_isDirty_7 (by decide) (fun g2 => ?_) (fun g2 => ?_)
    · refine lv_iconst (v := 0) hx hb dX0_isDirty_14 (by decide) ?_
      exact s_retz hx hb hr hlocks hw (by simp [xDi, bI, g1, g2]) dX0_isDirty_15
    · refine lv_iconst (v := 1) hx hb dX0_isDirty_10 (by decide) ?_
      refine lv_goto (tgt := 15) hx hb dX0_isDirty_11 (by decide) ?_
      exact s_retz hx hb hr hlocks hw (by simp [xDi, bI, g1, g2]) dX0_isDirty_15
theorem cwx_isDirty {R : Room} {s : State} {args : Array Value} (hts : ∀ w ∈ GT, w.before args s = true) (hR : 0 + 1 ≤ R.frames ∧ 8 + (1 + 11) + 40 * 0 ≤ R.locals) : CallB R s args RX0 114 yX0_isDirty cX0_isDirty 1 (some .boolean) ((.code yX0_isDirty cX0_isDirty 1 (some .boolean) : Cond) :: GT) (rmD 0) 0 0 1 ∧ (Cond.static yX0_isDirty).before args s = true :=
  va_cwS 1 hts (show GoodIn GT (va_wsS RX0 114 yX0_isDirty ((.code yX0_isDirty cX0_isDirty 1 (some .boolean) : Cond) :: GT)) from lw_gin (lw_gin (lw_gin (lw_gin lw_self gw_52) gw_1) gw_51) gw_50) rfl rfl rfl (by decide +kernel) hR
set_option maxRecDepth 100000 in
set_option maxHeartbeats 4000000 in
theorem cx_isPerhapsElsewhere (l : Launch) (x : Int32)  : sM l yX0_isPerhapsElsewhere cX0_isPerhapsElsewhere 1 (some .boolean) 0 [.int x] (bI (xEl x)) := by
  refine s_met (by decide) rfl (Nat.le_of_ble_eq_true rfl) ?_
  intro P0 e s m below meth c ls hx hb hml hr hlocks hown hts hl hw
  have hl : lv_has ls 1 [(0, .int x)] := hl
  refine lv_iload_n hx hb dX0_isPerhapsElsewhere_0 rfl (lv_at hl 0 rfl) ?_
  refine lv_iconst (v := 1) hx hb dX0_isPerhapsElsewhere_1 (by decide) ?_
  refine lv_icmp_eq (tgt := 10) hx hb dX0_isPerhapsElsewhere_2 (by decide) (fun g1 => ?_) (fun g1 => ?_)
  · refine lv_iconst (v := 1) hx hb dX0_isPerhapsElsewhere_10 (by decide) ?_
    refine lv_goto (tgt := 15) hx hb dX0_isPerhapsElsewhere_11 (by decide) ?_
    exact s_retz hx hb hr hlocks hw (by simp [xEl, bI, g1]) dX0_isPerhapsElsewhere_15
  · refine lv_iload_n hx hb dX0_isPerhapsElsewhere_5 rfl (lv_at hl 0 rfl) ?_
    refine lv_iconst (v := 3) hx hb dX0_isPerhapsElsewhere_6 (by decide) ?_
    refine lv_icmp_ne (tgt := 14) hx hb dX0_isPerhapsElsewhere_7 (by decide) (fun g2 => ?_) (fun g2 => ?_)
    · refine lv_iconst (v := 0) hx hb dX0_isPerhapsElsewhere_14 (by decide) ?_
      exact s_retz hx hb hr hlocks hw (by simp [xEl, bI, g1, g2]) dX0_isPerhapsElsewhere_15
    · refine lv_iconst (v := 1) hx hb dX0_isPerhapsElsewhere_10 (by decide) ?_
      refine lv_goto (tgt := 15) hx hb dX0_isPerhapsElsewhere_11 (by decide) ?_
      exact s_retz hx hb hr hlocks hw (by simp [xEl, bI, g1, g2]) dX0_isPerhapsElsewhere_15
theorem cwx_isPerhapsElsewhere {R : Room} {s : State} {args : Array Value} (hts : ∀ w ∈ GT, w.before args s = true) (hR : 0 + 1 ≤ R.frames ∧ 8 + (1 + 11) + 40 * 0 ≤ R.locals) : CallB R s args RX0 141 yX0_isPerhapsElsewhere cX0_isPerhapsElsewhere 1 (some .boolean) ((.code yX0_isPerhapsElsewhere cX0_isPerhapsElsewhere 1 (some .boolean) : Cond) :: GT) (rmD 0) 0 0 1 ∧ (Cond.static yX0_isPerhapsElsewhere).before args s = true :=
  va_cwS 1 hts (show GoodIn GT (va_wsS RX0 141 yX0_isPerhapsElsewhere ((.code yX0_isPerhapsElsewhere cX0_isPerhapsElsewhere 1 (some .boolean) : Cond) :: GT)) from lw_gin (lw_gin (lw_gin (lw_gin lw_self gw_156) gw_1) gw_155) gw_154) rfl rfl rfl (by decide +kernel) hR
set_option maxRecDepth 100000 in
set_option maxHeartbeats 4000000 in
theorem cx_blockOf (l : Launch) (a : Nat) (ha : a < 32) : sM l yX0_blockOf cX0_blockOf 1 (some .int) 0 [.int (nI a)] (nI (a / 2)) := by
  refine s_met (by decide) rfl (Nat.le_of_ble_eq_true rfl) ?_
  intro P0 e s m below meth c ls hx hb hml hr hlocks hown hts hl hw
  have hl : lv_has ls 1 [(0, .int (nI a))] := hl
  refine lv_iload_n hx hb dX0_blockOf_0 rfl (lv_at hl 0 rfl) ?_
  refine lv_iconst (v := 2) hx hb dX0_blockOf_1 (by decide) ?_
  refine lv_idiv hx hb dX0_blockOf_2 (by decide) ?_
  refine lw_top (y := nI (a / 2)) (pk_div (a := a) (d := 2) (by omega) (by decide) (by decide)) ?_
  exact s_ret hx hb hr hlocks hw rfl dX0_blockOf_3
theorem cwx_blockOf {R : Room} {s : State} {args : Array Value} (hts : ∀ w ∈ GT, w.before args s = true) (hR : 0 + 1 ≤ R.frames ∧ 8 + (1 + 11) + 40 * 0 ≤ R.locals) : CallB R s args RX0 50 yX0_blockOf cX0_blockOf 1 (some .int) ((.code yX0_blockOf cX0_blockOf 1 (some .int) : Cond) :: GT) (rmD 0) 0 0 1 ∧ (Cond.static yX0_blockOf).before args s = true :=
  va_cwS 1 hts (show GoodIn GT (va_wsS RX0 50 yX0_blockOf ((.code yX0_blockOf cX0_blockOf 1 (some .int) : Cond) :: GT)) from lw_gin (lw_gin (lw_gin (lw_gin lw_self gw_87) gw_1) gw_86) gw_85) rfl rfl rfl (by decide +kernel) hR
set_option maxRecDepth 100000 in
set_option maxHeartbeats 4000000 in
theorem cx_lineFor (l : Launch) (u b : Nat) (hu : u < 4) (hbb : b < 16) : sM l yX0_lineFor cX0_lineFor 2 (some .int) 0 [.int (nI u), .int (nI b)] (nI (2 * u + b % 2)) := by
  refine s_met (by decide) rfl (Nat.le_of_ble_eq_true rfl) ?_
  intro P0 e s m below meth c ls hx hb hml hr hlocks hown hts hl hw
  have hl : lv_has ls 2 [(0, .int (nI u)), (1, .int (nI b))] := hl
  refine lv_iload_n hx hb dX0_lineFor_0 rfl (lv_at hl 0 rfl) ?_
  refine lv_iconst (v := 2) hx hb dX0_lineFor_1 (by decide) ?_
  refine lv_imul hx hb dX0_lineFor_2 ?_
  refine lw_top (y := nI (u * 2)) (pk_mul u 2) ?_
  refine lv_iload_n hx hb dX0_lineFor_3 rfl (lv_at hl 1 rfl) ?_
  refine lv_iconst (v := 2) hx hb dX0_lineFor_4 (by decide) ?_
  refine lv_irem hx hb dX0_lineFor_5 (by decide) ?_
  refine lw_top (y := nI (b % 2)) (pk_rem (a := b) (d := 2) (by omega) (by decide) (by decide)) ?_
  refine lv_iadd hx hb dX0_lineFor_6 ?_
  refine lw_top (y := nI ((u * 2) + (b % 2))) (nI_add (u * 2) (b % 2)) ?_
  refine lw_top (y := nI (2 * u + b % 2)) (congrArg nI (by omega)) ?_
  exact s_ret hx hb hr hlocks hw rfl dX0_lineFor_7
theorem cwx_lineFor {R : Room} {s : State} {args : Array Value} (hts : ∀ w ∈ GT, w.before args s = true) (hR : 0 + 1 ≤ R.frames ∧ 8 + (2 + 11) + 40 * 0 ≤ R.locals) : CallB R s args RX0 90 yX0_lineFor cX0_lineFor 2 (some .int) ((.code yX0_lineFor cX0_lineFor 2 (some .int) : Cond) :: GT) (rmD 0) 0 0 2 ∧ (Cond.static yX0_lineFor).before args s = true :=
  va_cwS 2 hts (show GoodIn GT (va_wsS RX0 90 yX0_lineFor ((.code yX0_lineFor cX0_lineFor 2 (some .int) : Cond) :: GT)) from lw_gin (lw_gin (lw_gin (lw_gin lw_self gw_77) gw_1) gw_76) gw_75) rfl rfl rfl (by decide +kernel) hR
set_option maxRecDepth 100000 in
set_option maxHeartbeats 4000000 in
theorem cx_wordIndex (l : Launch) (u a : Nat) (hu : u < 4) (ha : a < 32) : sM l yX0_wordIndex cX0_wordIndex 2 (some .int) 1 [.int (nI u), .int (nI a)] (nI (2 * (2 * u + a / 2 % 2) + a % 2)) := by
  refine s_met (by decide) rfl (Nat.le_of_ble_eq_true rfl) ?_
  intro P0 e s m below meth c ls hx hb hml hr hlocks hown hts hl hw
  have hl : lv_has ls 2 [(0, .int (nI u)), (1, .int (nI a))] := hl
  refine lv_iload_n hx hb dX0_wordIndex_0 rfl (lv_at hl 0 rfl) ?_
  refine lv_iload_n hx hb dX0_wordIndex_1 rfl (lv_at hl 1 rfl) ?_
  refine s_cs (rest := [.int (nI u)]) ⟨hx, hb, hml, hown, hts⟩ (cx_blockOf l a (by omega)) (cwx_blockOf hts ⟨by decide, by decide⟩) hw rfl hl.1 rfl (Nat.le_of_ble_eq_true rfl) dX0_wordIndex_2 ⟨Nat.zero_le _, Nat.zero_le _⟩ (fun H locs hw => ?_)
  refine s_cs (rest := []) ⟨hx, hb, hml, hown, hts⟩ (cx_lineFor l u (a / 2) (by omega) (by omega)) (cwx_lineFor hts ⟨by decide, by decide⟩) hw rfl hl.1 rfl (Nat.le_of_ble_eq_true rfl) dX0_wordIndex_5 ⟨Nat.zero_le _, Nat.zero_le _⟩ (fun H locs hw => ?_)
  refine lv_iconst (v := 2) hx hb dX0_wordIndex_8 (by decide) ?_
  refine lv_imul hx hb dX0_wordIndex_9 ?_
  refine lw_top (y := nI ((2 * u + (a / 2) % 2) * 2)) (pk_mul (2 * u + (a / 2) % 2) 2) ?_
  refine lv_iload_n hx hb dX0_wordIndex_10 rfl (lv_at hl 1 rfl) ?_
  refine lv_iconst (v := 2) hx hb dX0_wordIndex_11 (by decide) ?_
  refine lv_irem hx hb dX0_wordIndex_12 (by decide) ?_
  refine lw_top (y := nI (a % 2)) (pk_rem (a := a) (d := 2) (by omega) (by decide) (by decide)) ?_
  refine lv_iadd hx hb dX0_wordIndex_13 ?_
  refine lw_top (y := nI (((2 * u + (a / 2) % 2) * 2) + (a % 2))) (nI_add ((2 * u + (a / 2) % 2) * 2) (a % 2)) ?_
  refine lw_top (y := nI (2 * (2 * u + a / 2 % 2) + a % 2)) (congrArg nI (by omega)) ?_
  exact s_ret hx hb hr hlocks hw rfl dX0_wordIndex_14
theorem cwx_wordIndex {R : Room} {s : State} {args : Array Value} (hts : ∀ w ∈ GT, w.before args s = true) (hR : 1 + 1 ≤ R.frames ∧ 8 + (2 + 11) + 40 * 1 ≤ R.locals) : CallB R s args RX0 58 yX0_wordIndex cX0_wordIndex 2 (some .int) ((.code yX0_wordIndex cX0_wordIndex 2 (some .int) : Cond) :: GT) (rmD 1) 0 0 2 ∧ (Cond.static yX0_wordIndex).before args s = true :=
  va_cwS 2 hts (show GoodIn GT (va_wsS RX0 58 yX0_wordIndex ((.code yX0_wordIndex cX0_wordIndex 2 (some .int) : Cond) :: GT)) from lw_gin (lw_gin (lw_gin (lw_gin lw_self gw_90) gw_1) gw_89) gw_88) rfl rfl rfl (by decide +kernel) hR
set_option maxRecDepth 100000 in
set_option maxHeartbeats 4000000 in
theorem cx_protocol (l : Launch) (D : va_G) (o : Nat → Nat) (cA : ClassId) (S : SX)   : xMi l D o cA yX0_protocol cX0_protocol 1 (some .int) 0 [.ref (o 0)] S (S) (S.2 0) := by
  intro sz
  refine x_met (by decide) rfl (Nat.le_of_ble_eq_true rfl) ?_
  intro P0 e s m below meth c ls hsz hx hb hml hr hlocks hown hts hl hw
  subst hsz
  have hl : lv_has ls 1 [(0, .ref (o 0))] := hl
  refine lv_aload_n hx hb dX0_protocol_0 rfl (lv_at hl 0 rfl) ?_
  refine x_f0 hx hb hts hown hw dX0_protocol_1 ?_
  exact x_reti hx hb hr hlocks hw ⟨rfl, rfl⟩ dX0_protocol_4
set_option maxRecDepth 100000 in
set_option maxHeartbeats 4000000 in
theorem cx_hits (l : Launch) (D : va_G) (o : Nat → Nat) (cA : ClassId) (S : SX)   : xMi l D o cA yX0_hits cX0_hits 1 (some .int) 0 [.ref (o 0)] S (S) (S.2 2) := by
  intro sz
  refine x_met (by decide) rfl (Nat.le_of_ble_eq_true rfl) ?_
  intro P0 e s m below meth c ls hsz hx hb hml hr hlocks hown hts hl hw
  subst hsz
  have hl : lv_has ls 1 [(0, .ref (o 0))] := hl
  refine lv_aload_n hx hb dX0_hits_0 rfl (lv_at hl 0 rfl) ?_
  refine x_f2 hx hb hts hown hw dX0_hits_1 ?_
  exact x_reti hx hb hr hlocks hw ⟨rfl, rfl⟩ dX0_hits_4
set_option maxRecDepth 100000 in
set_option maxHeartbeats 4000000 in
theorem cx_misses (l : Launch) (D : va_G) (o : Nat → Nat) (cA : ClassId) (S : SX)   : xMi l D o cA yX0_misses cX0_misses 1 (some .int) 0 [.ref (o 0)] S (S) (S.2 3) := by
  intro sz
  refine x_met (by decide) rfl (Nat.le_of_ble_eq_true rfl) ?_
  intro P0 e s m below meth c ls hsz hx hb hml hr hlocks hown hts hl hw
  subst hsz
  have hl : lv_has ls 1 [(0, .ref (o 0))] := hl
  refine lv_aload_n hx hb dX0_misses_0 rfl (lv_at hl 0 rfl) ?_
  refine x_f3 hx hb hts hown hw dX0_misses_1 ?_
  exact x_reti hx hb hr hlocks hw ⟨rfl, rfl⟩ dX0_misses_4
set_option maxRecDepth 100000 in
set_option maxHeartbeats 4000000 in
theorem cx_updates (l : Launch) (D : va_G) (o : Nat → Nat) (cA : ClassId) (S : SX)   : xMi l D o cA yX0_updates cX0_updates 1 (some .boolean) 0 [.ref (o 0)] S (S) (bI (decide (S.2 0 = 3))) := by
  intro sz
  refine x_met (by decide) rfl (Nat.le_of_ble_eq_true rfl) ?_
  intro P0 e s m below meth c ls hsz hx hb hml hr hlocks hown hts hl hw
  subst hsz
  have hl : lv_has ls 1 [(0, .ref (o 0))] := hl
  refine lv_aload_n hx hb dX0_updates_0 rfl (lv_at hl 0 rfl) ?_
  refine x_f0 hx hb hts hown hw dX0_updates_1 ?_
  refine lv_iconst (v := 3) hx hb dX0_updates_4 (by decide) ?_
  refine lv_icmp_ne (tgt := 12) hx hb dX0_updates_5 (by decide) (fun g1 => ?_) (fun g1 => ?_)
  · refine lv_iconst (v := 0) hx hb dX0_updates_12 (by decide) ?_
    exact x_retz hx hb hr hlocks hw ⟨by simp [bI, g1], rfl⟩ dX0_updates_13
  · refine lv_iconst (v := 1) hx hb dX0_updates_8 (by decide) ?_
    refine lv_goto (tgt := 13) hx hb dX0_updates_9 (by decide) ?_
    exact x_retz hx hb hr hlocks hw ⟨by simp [bI, g1], rfl⟩ dX0_updates_13
theorem cwx_updates {R : Room} {s : State} {args : Array Value} (hts : ∀ w ∈ GT, w.before args s = true) (hR : 0 + 1 ≤ R.frames ∧ 8 + (1 + 11) + 40 * 0 ≤ R.locals) : CallW R s args RX0 RX0 65 yX0_updates cX0_updates 1 (some .boolean) ((.code yX0_updates cX0_updates 1 (some .boolean) : Cond) :: GT) (rmD 0) 0 0 0 :=
  cwV 0 hts (show GoodIn GT (wsV RX0 65 RX0 yX0_updates ((.code yX0_updates cX0_updates 1 (some .boolean) : Cond) :: GT)) from lw_gin (lw_gin (lw_gin (lw_gin (lw_gin lw_self gw_150) gw_1) gw_293) gw_149) gw_148) rfl rfl rfl (by decide +kernel) hR
set_option maxRecDepth 100000 in
set_option maxHeartbeats 4000000 in
theorem cx_holds (l : Launch) (D : va_G) (o : Nat → Nat) (cA : ClassId) (S : SX) (u b : Nat) (hu : u < 4) (hbb : b < 16) : xMi l D o cA yX0_holds cX0_holds 4 (some .boolean) 1 [.ref (o 0), .int (nI u), .int (nI b)] S (S) (bI (xHo S u b)) := by
  intro sz
  refine x_met (by decide) rfl (Nat.le_of_ble_eq_true rfl) ?_
  intro P0 e s m below meth c ls hsz hx hb hml hr hlocks hown hts hl hw
  subst hsz
  have hl : lv_has ls 4 [(0, .ref (o 0)), (1, .int (nI u)), (2, .int (nI b))] := hl
  refine lv_iload_n hx hb dX0_holds_0 rfl (lv_at hl 1 rfl) ?_
  refine lv_iload_n hx hb dX0_holds_1 rfl (lv_at hl 2 rfl) ?_
  refine x_cs (rest := []) ⟨hx, hb, hml, hown, hts⟩ (cx_lineFor l u b (by omega) (by omega)) (cwx_lineFor hts ⟨by decide, by decide⟩) hw rfl hl.1 rfl (Nat.le_of_ble_eq_true rfl) dX0_holds_2 ⟨Nat.zero_le _, Nat.zero_le _⟩ (fun H locs hw => ?_)
  refine lv_istore_n (lv' := [(3, .int (nI (2 * u + b % 2))), (0, .ref (o 0)), (1, .int (nI u)), (2, .int (nI b))]) hx hb dX0_holds_5 rfl hl (by decide) rfl (fun ls hl => ?_)
  refine lv_aload_n hx hb dX0_holds_6 rfl (lv_at hl 1 rfl) ?_
  refine x_g0 hx hb hts hown hw dX0_holds_7 ?_
  refine lv_iload_n hx hb dX0_holds_10 rfl (lv_at hl 0 rfl) ?_
  refine x_l0 (n := 2 * u + b % 2) hx hb hw (by omega) dX0_holds_11 ?_
  refine lv_if_eq (tgt := 29) hx hb dX0_holds_12 (by decide) (fun g1 => ?_) (fun g1 => ?_)
  · refine lv_iconst (v := 0) hx hb dX0_holds_29 (by decide) ?_
    exact x_retz hx hb hr hlocks hw ⟨by simp [bI, xHo, g1], rfl⟩ dX0_holds_30
  · refine lv_aload_n hx hb dX0_holds_15 rfl (lv_at hl 1 rfl) ?_
    refine x_g1 hx hb hts hown hw dX0_holds_16 ?_
    refine lv_iload_n hx hb dX0_holds_19 rfl (lv_at hl 0 rfl) ?_
    refine x_l1 (n := 2 * u + b % 2) hx hb hw (by omega) dX0_holds_20 ?_
    refine lv_iload_n hx hb dX0_holds_21 rfl (lv_at hl 3 rfl) ?_
    refine lv_icmp_ne (tgt := 29) hx hb dX0_holds_22 (by decide) (fun g2 => ?_) (fun g2 => ?_)
    · refine lv_iconst (v := 0) hx hb dX0_holds_29 (by decide) ?_
      exact x_retz hx hb hr hlocks hw ⟨by simp [bI, xHo, g1, g2], rfl⟩ dX0_holds_30
    · refine lv_iconst (v := 1) hx hb dX0_holds_25 (by decide) ?_
      refine lv_goto (tgt := 30) hx hb dX0_holds_26 (by decide) ?_
      exact x_retz hx hb hr hlocks hw ⟨by simp [bI, xHo, g1, g2], rfl⟩ dX0_holds_30
theorem cwx_holds {R : Room} {s : State} {args : Array Value} (hts : ∀ w ∈ GT, w.before args s = true) (hR : 1 + 1 ≤ R.frames ∧ 8 + (4 + 11) + 40 * 1 ≤ R.locals) : CallW R s args RX0 RX0 81 yX0_holds cX0_holds 4 (some .boolean) ((.code yX0_holds cX0_holds 4 (some .boolean) : Cond) :: GT) (rmD 1) 0 0 2 :=
  cwV 2 hts (show GoodIn GT (wsV RX0 81 RX0 yX0_holds ((.code yX0_holds cX0_holds 4 (some .boolean) : Cond) :: GT)) from lw_gin (lw_gin (lw_gin (lw_gin (lw_gin lw_self gw_74) gw_1) gw_285) gw_73) gw_72) rfl rfl rfl (by decide +kernel) hR
set_option maxRecDepth 100000 in
set_option maxHeartbeats 4000000 in
theorem cx_transact (l : Launch) (D : va_G) (o : Nat → Nat) (cA : ClassId) (S : SX) (k u b : Nat) (hk : k < 5) (hu : u < 4) (hbb : b < 16) : xMv l D o cA yX0_transact cX0_transact 5 1 [.ref (o 0), .int (nI k), .int (nI u), .int (nI b)] S (xTr S k u b) := by
  intro sz
  refine x_met (by decide) rfl (Nat.le_of_ble_eq_true rfl) ?_
  intro P0 e s m below meth c ls hsz hx hb hml hr hlocks hown hts hl hw
  subst hsz
  have hl : lv_has ls 5 [(0, .ref (o 0)), (1, .int (nI k)), (2, .int (nI u)), (3, .int (nI b))] := hl
  have loop : ∀ (j : Nat), j < 8 → ∀ (f : Nat → Int32) (H : Heap) (locs : List Loc) (ls : Array Slot), lv_has ls 5 [(4, .int (nI j)), (0, .ref (o 0)), (1, .int (nI k)), (2, .int (nI u)), (3, .int (nI b))] → xW D o cA (xA o s.heap.size) s s.heap (zA S 5 f) H locs → shF j f = shF 7 (S.1 5) → W P0 l e (rmD 1) s m ([.ref (o 0), .int (nI k), .int (nI u), .int (nI b)]).toArray below meth c H locs 0 0 (MQ below (xQv D o cA s.heap.size (xTr S k u b)) ([.ref (o 0), .int (nI k), .int (nI u), .int (nI b)]).toArray s 0 0 (xA o s.heap.size)) (F0 m 4 ls []) := by
    intro j
    induction j with
    | zero =>
      intro hj f H locs ls hl hw hf
      refine lv_iload hx hb dX0_transact_4 (lv_at hl 0 rfl) ?_
      refine lv_if_le (tgt := 31) hx hb dX0_transact_6 (by decide) (fun _ => ?_) (fun h9 => absurd (by decide) h9)
      refine lv_aload_n hx hb dX0_transact_31 rfl (lv_at hl 1 rfl) ?_
      refine x_g5 hx hb hts hown hw dX0_transact_32 ?_
      refine lv_iconst (v := 0) hx hb dX0_transact_35 (by decide) ?_
      refine lv_bipush (v := 64) hx hb dX0_transact_36 (by decide) ?_
      refine lv_iload_n hx hb dX0_transact_38 rfl (lv_at hl 2 rfl) ?_
      refine lv_imul hx hb dX0_transact_39 ?_
      refine lw_top (y := nI (64 * k)) (pk_mul 64 k) ?_
      refine lv_bipush (v := 16) hx hb dX0_transact_40 (by decide) ?_
      refine lv_iload_n hx hb dX0_transact_42 rfl (lv_at hl 3 rfl) ?_
      refine lv_imul hx hb dX0_transact_43 ?_
      refine lw_top (y := nI (16 * u)) (pk_mul 16 u) ?_
      refine lv_iadd hx hb dX0_transact_44 ?_
      refine lw_top (y := nI ((64 * k) + (16 * u))) (nI_add (64 * k) (16 * u)) ?_
      refine lv_iload_n hx hb dX0_transact_45 rfl (lv_at hl 4 rfl) ?_
      refine lv_iadd hx hb dX0_transact_46 ?_
      refine lw_top (y := nI (((64 * k) + (16 * u)) + b)) (nI_add ((64 * k) + (16 * u)) b) ?_
      refine x_s5 (n := 0) (x := nI (((64 * k) + (16 * u)) + b)) hx hb hw (by omega) dX0_transact_47 (fun H locs hw => ?_)
      refine lv_aload_n hx hb dX0_transact_48 rfl (lv_at hl 1 rfl) ?_
      refine x_g4 hx hb hts hown hw dX0_transact_49 ?_
      refine lv_iload_n hx hb dX0_transact_52 rfl (lv_at hl 2 rfl) ?_
      refine lv_dup2_11 hx hb dX0_transact_53 rfl rfl ?_
      refine x_l4 (n := k) hx hb hw (by omega) dX0_transact_54 ?_
      refine lv_iconst (v := 1) hx hb dX0_transact_55 (by decide) ?_
      refine lv_iadd hx hb dX0_transact_56 ?_
      refine x_s4 (n := k) (x := (((zA (zA S 5 f) 5 (upd ((zA S 5 f).1 5) 0 (nI (((64 * k) + (16 * u)) + b)))).1 4 k) + 1)) hx hb hw (by omega) dX0_transact_57 (fun H locs hw => ?_)
      refine lv_aload_n hx hb dX0_transact_58 rfl (lv_at hl 1 rfl) ?_
      refine lv_dup hx hb dX0_transact_59 rfl ?_
      refine x_f1 hx hb hts hown hw dX0_transact_60 ?_
      refine lv_iconst (v := 1) hx hb dX0_transact_63 (by decide) ?_
      refine lv_iadd hx hb dX0_transact_64 ?_
      refine x_p1 (x := (((zA (zA (zA S 5 f) 5 (upd ((zA S 5 f).1 5) 0 (nI (((64 * k) + (16 * u)) + b)))) 4 (upd ((zA (zA S 5 f) 5 (upd ((zA S 5 f).1 5) 0 (nI (((64 * k) + (16 * u)) + b)))).1 4) k (((zA (zA S 5 f) 5 (upd ((zA S 5 f).1 5) 0 (nI (((64 * k) + (16 * u)) + b)))).1 4 k) + 1))).2 1) + 1)) hx hb hts hown hw dX0_transact_65 (fun H locs hw => ?_)
      exact x_retv hx hb hr hlocks hw (by unfold xTr; rw [← show f = shF 7 (S.1 5) from hf, zA_zA, zA_s]; rfl) dX0_transact_68
    | succ j ih =>
      intro hj f H locs ls hl hw hf
      refine lv_iload hx hb dX0_transact_4 (lv_at hl 0 rfl) ?_
      refine lv_if_le (tgt := 31) hx hb dX0_transact_6 (by decide) (fun h9 => absurd h9 (nI_nle (by omega) (by omega))) (fun _ => ?_)
      refine lv_aload_n hx hb dX0_transact_9 rfl (lv_at hl 1 rfl) ?_
      refine x_g5 hx hb hts hown hw dX0_transact_10 ?_
      refine lv_iload hx hb dX0_transact_13 (lv_at hl 0 rfl) ?_
      refine lv_aload_n hx hb dX0_transact_15 rfl (lv_at hl 1 rfl) ?_
      refine x_g5 hx hb hts hown hw dX0_transact_16 ?_
      refine lv_iload hx hb dX0_transact_19 (lv_at hl 0 rfl) ?_
      refine lv_iconst (v := 1) hx hb dX0_transact_21 (by decide) ?_
      refine lv_isub hx hb dX0_transact_22 ?_
      refine lw_top (y := nI ((j + 1) - 1)) (pk_sub (a := (j + 1)) (b := 1) (by omega)) ?_
      refine lw_top (y := nI (j)) (congrArg nI (by omega)) ?_
      refine x_l5 (n := j) hx hb hw (by omega) dX0_transact_23 ?_
      refine x_s5 (n := j + 1) (x := ((zA S 5 f).1 5 j)) hx hb hw (by omega) dX0_transact_24 (fun H locs hw => ?_)
      rw [zA_zA, zA_s] at hw
      refine lv_iinc (k := 0) (v := nI j) (lv' := [(4, .int (nI j)), (0, .ref (o 0)), (1, .int (nI k)), (2, .int (nI u)), (3, .int (nI b))]) hx hb dX0_transact_25 hl rfl (pk_m1 j) (by decide) rfl (fun ls hl => ?_)
      refine lv_goto (tgt := 4) hx hb dX0_transact_28 (by decide) ?_
      exact ih (by omega) _ _ _ _ hl hw hf
  refine lv_bipush (v := 7) hx hb dX0_transact_0 (by decide) ?_
  refine lv_istore (lv' := [(4, .int 7), (0, .ref (o 0)), (1, .int (nI k)), (2, .int (nI u)), (3, .int (nI b))]) hx hb dX0_transact_2 hl (by decide) rfl (fun ls hl => ?_)
  exact loop 7 (by decide) (S.1 5) _ _ _ hl (by rw [zA_id]; exact hw) rfl
theorem cwx_transact {R : Room} {s : State} {args : Array Value} (hts : ∀ w ∈ GT, w.before args s = true) (hR : 1 + 1 ≤ R.frames ∧ 8 + (5 + 11) + 40 * 1 ≤ R.locals) : CallW R s args RX0 RX0 117 yX0_transact cX0_transact 5 none ((.code yX0_transact cX0_transact 5 none : Cond) :: GT) (rmD 1) 0 0 3 :=
  cwV 3 hts (show GoodIn GT (wsV RX0 117 RX0 yX0_transact ((.code yX0_transact cX0_transact 5 none : Cond) :: GT)) from lw_gin (lw_gin (lw_gin (lw_gin (lw_gin lw_self gw_55) gw_1) gw_283) gw_54) gw_53) rfl rfl rfl (by decide +kernel) hR
set_option maxRecDepth 100000 in
set_option maxHeartbeats 4000000 in
theorem cx_copyToMemory (l : Launch) (D : va_G) (o : Nat → Nat) (cA : ClassId) (S : SX) (i b : Nat) (hi : i < 8) (hbb : b < 16) (hB : S.1 1 i = nI b) : xMv l D o cA yX0_copyToMemory cX0_copyToMemory 2 1 [.ref (o 0), .int (nI i)] S (xCp S i) := by
  intro sz
  refine x_met (by decide) rfl (Nat.le_of_ble_eq_true rfl) ?_
  intro P0 e s m below meth c ls hsz hx hb hml hr hlocks hown hts hl hw
  subst hsz
  have hl : lv_has ls 2 [(0, .ref (o 0)), (1, .int (nI i))] := hl
  refine lv_aload_n hx hb dX0_copyToMemory_0 rfl (lv_at hl 0 rfl) ?_
  refine x_g2 hx hb hts hown hw dX0_copyToMemory_1 ?_
  refine lv_iload_n hx hb dX0_copyToMemory_4 rfl (lv_at hl 1 rfl) ?_
  refine lv_iconst (v := 2) hx hb dX0_copyToMemory_5 (by decide) ?_
  refine lv_imul hx hb dX0_copyToMemory_6 ?_
  refine lw_top (y := nI (i * 2)) (pk_mul i 2) ?_
  refine lv_aload_n hx hb dX0_copyToMemory_7 rfl (lv_at hl 0 rfl) ?_
  refine x_g3 hx hb hts hown hw dX0_copyToMemory_8 ?_
  refine lv_aload_n hx hb dX0_copyToMemory_11 rfl (lv_at hl 0 rfl) ?_
  refine x_g1 hx hb hts hown hw dX0_copyToMemory_12 ?_
  refine lv_iload_n hx hb dX0_copyToMemory_15 rfl (lv_at hl 1 rfl) ?_
  refine x_l1 (n := i) hx hb hw (by omega) dX0_copyToMemory_16 ?_
  refine lw_top (y := nI b) hB ?_
  refine lv_iconst (v := 2) hx hb dX0_copyToMemory_17 (by decide) ?_
  refine lv_imul hx hb dX0_copyToMemory_18 ?_
  refine lw_top (y := nI (b * 2)) (pk_mul b 2) ?_
  refine lv_iconst (v := 2) hx hb dX0_copyToMemory_19 (by decide) ?_
  refine x_cp23 (sp := i * 2) (dp := b * 2) (n := 2) (rest := []) hx hb (hml.trans hl.1.symm) hts hown hw (by omega) (by omega) (by decide) (by decide +kernel) dX0_copyToMemory_20 (fun H locs hw => ?_)
  exact x_retv hx hb hr hlocks hw (by unfold xCp; rw [hB, nI_clamp (by omega : b < 2 ^ 31), Nat.mul_comm 2 i, Nat.mul_comm 2 b]) dX0_copyToMemory_23
theorem cwx_copyToMemory {R : Room} {s : State} {args : Array Value} (hts : ∀ w ∈ GT, w.before args s = true) (hR : 1 + 1 ≤ R.frames ∧ 8 + (2 + 11) + 40 * 1 ≤ R.locals) : CallW R s args RX0 RX0 120 yX0_copyToMemory cX0_copyToMemory 2 none ((.code yX0_copyToMemory cX0_copyToMemory 2 none : Cond) :: GT) (rmD 1) 0 0 1 :=
  cwV 1 hts (show GoodIn GT (wsV RX0 120 RX0 yX0_copyToMemory ((.code yX0_copyToMemory cX0_copyToMemory 2 none : Cond) :: GT)) from lw_gin (lw_gin (lw_gin (lw_gin (lw_gin lw_self gw_58) gw_1) gw_284) gw_57) gw_56) rfl rfl rfl (by decide +kernel) hR
set_option maxRecDepth 100000 in
set_option maxHeartbeats 4000000 in
theorem cx_emptyLine (l : Launch) (D : va_G) (o : Nat → Nat) (cA : ClassId) (S : SX) (i b : Nat) (hi : i < 8) (hbb : b < 16) (hB : S.1 1 i = nI b) : xMi l D o cA yX0_emptyLine cX0_emptyLine 3 (some .boolean) 2 [.ref (o 0), .int (nI i)] S (xEm S i) (bI (xDi (S.1 0 i))) := by
  intro sz
  refine x_met (by decide) rfl (Nat.le_of_ble_eq_true rfl) ?_
  intro P0 e s m below meth c ls hsz hx hb hml hr hlocks hown hts hl hw
  subst hsz
  have hl : lv_has ls 3 [(0, .ref (o 0)), (1, .int (nI i))] := hl
  refine lv_aload_n hx hb dX0_emptyLine_0 rfl (lv_at hl 0 rfl) ?_
  refine x_g0 hx hb hts hown hw dX0_emptyLine_1 ?_
  refine lv_iload_n hx hb dX0_emptyLine_4 rfl (lv_at hl 1 rfl) ?_
  refine x_l0 (n := i) hx hb hw (by omega) dX0_emptyLine_5 ?_
  refine x_cs (rest := []) ⟨hx, hb, hml, hown, hts⟩ (cx_isDirty l (S.1 0 i)) (cwx_isDirty hts ⟨by decide, by decide⟩) hw rfl hl.1 rfl (Nat.le_of_ble_eq_true rfl) dX0_emptyLine_6 ⟨Nat.zero_le _, Nat.zero_le _⟩ (fun H locs hw => ?_)
  refine lv_istore_n (lv' := [(2, .int (bI (xDi (S.1 0 i)))), (0, .ref (o 0)), (1, .int (nI i))]) hx hb dX0_emptyLine_9 rfl hl (by decide) rfl (fun ls hl => ?_)
  refine lv_iload_n hx hb dX0_emptyLine_10 rfl (lv_at hl 0 rfl) ?_
  refine lv_if_eq (tgt := 33) hx hb dX0_emptyLine_11 (by decide) (fun g1 => ?_) (fun g1 => ?_)
  · have g1 := bI_z.mp g1
    refine lv_aload_n hx hb dX0_emptyLine_33 rfl (lv_at hl 1 rfl) ?_
    refine x_g0 hx hb hts hown hw dX0_emptyLine_34 ?_
    refine lv_iload_n hx hb dX0_emptyLine_37 rfl (lv_at hl 2 rfl) ?_
    refine lv_iconst (v := 0) hx hb dX0_emptyLine_38 (by decide) ?_
    refine x_s0 (n := i) (x := 0) hx hb hw (by omega) dX0_emptyLine_39 (fun H locs hw => ?_)
    refine lv_iload_n hx hb dX0_emptyLine_40 rfl (lv_at hl 0 rfl) ?_
    exact x_retz hx hb hr hlocks hw ⟨rfl, by simp only [xEm, xEmT, g1, hB, nI_clamp (show b < 2 ^ 31 by omega), if_true, if_false, Bool.false_eq_true, reduceIte]⟩ dX0_emptyLine_41
  · have g1 := bI_n.mp g1
    refine lv_aload_n hx hb dX0_emptyLine_14 rfl (lv_at hl 1 rfl) ?_
    refine lv_iconst (v := 4) hx hb dX0_emptyLine_15 (by decide) ?_
    refine lv_iload_n hx hb dX0_emptyLine_16 rfl (lv_at hl 2 rfl) ?_
    refine lv_iconst (v := 2) hx hb dX0_emptyLine_17 (by decide) ?_
    refine lv_idiv hx hb dX0_emptyLine_18 (by decide) ?_
    refine lw_top (y := nI (i / 2)) (pk_div (a := i) (d := 2) (by omega) (by decide) (by decide)) ?_
    refine lv_aload_n hx hb dX0_emptyLine_19 rfl (lv_at hl 1 rfl) ?_
    refine x_g1 hx hb hts hown hw dX0_emptyLine_20 ?_
    refine lv_iload_n hx hb dX0_emptyLine_23 rfl (lv_at hl 2 rfl) ?_
    refine x_l1 (n := i) hx hb hw (by omega) dX0_emptyLine_24 ?_
    refine lw_top (y := nI b) hB ?_
    refine x_cv (rest := []) ⟨hx, hb, hml, hown, hts⟩ (cx_transact l D o cA S 4 (i / 2) b (by omega) (by omega) (by omega)) (cwx_transact hts ⟨by decide, by decide⟩) hw rfl hl.1 rfl (Nat.le_of_ble_eq_true rfl) dX0_emptyLine_25 ⟨Nat.zero_le _, Nat.zero_le _⟩ (fun H locs hw => ?_)
    refine lv_aload_n hx hb dX0_emptyLine_28 rfl (lv_at hl 1 rfl) ?_
    refine lv_iload_n hx hb dX0_emptyLine_29 rfl (lv_at hl 2 rfl) ?_
    refine x_cv (rest := []) ⟨hx, hb, hml, hown, hts⟩ (cx_copyToMemory l D o cA (xTr S 4 (i / 2) b) i b (by omega) hbb hB) (cwx_copyToMemory hts ⟨by decide, by decide⟩) hw rfl hl.1 rfl (Nat.le_of_ble_eq_true rfl) dX0_emptyLine_30 ⟨Nat.zero_le _, Nat.zero_le _⟩ (fun H locs hw => ?_)
    refine lv_aload_n hx hb dX0_emptyLine_33 rfl (lv_at hl 1 rfl) ?_
    refine x_g0 hx hb hts hown hw dX0_emptyLine_34 ?_
    refine lv_iload_n hx hb dX0_emptyLine_37 rfl (lv_at hl 2 rfl) ?_
    refine lv_iconst (v := 0) hx hb dX0_emptyLine_38 (by decide) ?_
    refine x_s0 (n := i) (x := 0) hx hb hw (by omega) dX0_emptyLine_39 (fun H locs hw => ?_)
    refine lv_iload_n hx hb dX0_emptyLine_40 rfl (lv_at hl 0 rfl) ?_
    exact x_retz hx hb hr hlocks hw ⟨rfl, by simp only [xEm, xEmT, g1, hB, nI_clamp (show b < 2 ^ 31 by omega), if_true, if_false, Bool.false_eq_true, reduceIte]⟩ dX0_emptyLine_41
theorem cwx_emptyLine {R : Room} {s : State} {args : Array Value} (hts : ∀ w ∈ GT, w.before args s = true) (hR : 2 + 1 ≤ R.frames ∧ 8 + (3 + 11) + 40 * 2 ≤ R.locals) : CallW R s args RX0 RX0 93 yX0_emptyLine cX0_emptyLine 3 (some .boolean) ((.code yX0_emptyLine cX0_emptyLine 3 (some .boolean) : Cond) :: GT) (rmD 2) 0 0 1 :=
  cwV 1 hts (show GoodIn GT (wsV RX0 93 RX0 yX0_emptyLine ((.code yX0_emptyLine cX0_emptyLine 3 (some .boolean) : Cond) :: GT)) from lw_gin (lw_gin (lw_gin (lw_gin (lw_gin lw_self gw_49) gw_1) gw_282) gw_48) gw_47) rfl rfl rfl (by decide +kernel) hR
set_option maxRecDepth 100000 in
set_option maxHeartbeats 4000000 in
theorem cx_dirtyLine (l : Launch) (D : va_G) (o : Nat → Nat) (cA : ClassId) (S : SX) (b : Nat) (hbb : b < 16) : xMi l D o cA yX0_dirtyLine cX0_dirtyLine 4 (some .int) 2 [.ref (o 0), .int (nI b)] S (S) (xDl S b) := by
  intro sz
  refine x_met (by decide) rfl (Nat.le_of_ble_eq_true rfl) ?_
  intro P0 e s m below meth c ls hsz hx hb hml hr hlocks hown hts hl hw
  subst hsz
  have hl : lv_has ls 4 [(0, .ref (o 0)), (1, .int (nI b))] := hl
  have loop : ∀ (n k : Nat), n + k = 4 → ∀  (H : Heap) (locs : List Loc) (ls : Array Slot), lv_has ls 4 [(2, .int (nI k)), (0, .ref (o 0)), (1, .int (nI b))] → xW D o cA (xA o s.heap.size) s s.heap S H locs → xDlF S b n k = xDl S b → W P0 l e (rmD 2) s m ([.ref (o 0), .int (nI b)]).toArray below meth c H locs 0 0 (MQ below (xQi D o cA s.heap.size (S) (xDl S b)) ([.ref (o 0), .int (nI b)]).toArray s 0 0 (xA o s.heap.size)) (F0 m 2 ls []) := by
    intro n
    induction n with
    | zero =>
      intro k hk H locs ls hl hw hf
      obtain rfl : k = 4 := by omega
      refine lv_iload_n hx hb dX0_dirtyLine_2 rfl (lv_at hl 0 rfl) ?_
      refine lv_iconst (v := 4) hx hb dX0_dirtyLine_3 (by decide) ?_
      refine lv_icmp_ge (tgt := 42) hx hb dX0_dirtyLine_4 (by decide) (fun _ => ?_) (fun h9 => absurd (by decide) h9)
      refine lv_iconst (v := -1) hx hb dX0_dirtyLine_42 (by decide) ?_
      exact x_reti hx hb hr hlocks hw ⟨by rw [← hf]; rfl, rfl⟩ dX0_dirtyLine_43
    | succ n ih =>
      intro k hk H locs ls hl hw hf
      refine lv_iload_n hx hb dX0_dirtyLine_2 rfl (lv_at hl 0 rfl) ?_
      refine lv_iconst (v := 4) hx hb dX0_dirtyLine_3 (by decide) ?_
      refine lv_icmp_ge (tgt := 42) hx hb dX0_dirtyLine_4 (by decide) (fun h9 => absurd h9 (nI_ge (a := k) (b := 4) (by omega) (by decide))) (fun _ => ?_)
      refine lv_iload_n hx hb dX0_dirtyLine_7 rfl (lv_at hl 0 rfl) ?_
      refine lv_iload_n hx hb dX0_dirtyLine_8 rfl (lv_at hl 2 rfl) ?_
      refine x_cs (rest := []) ⟨hx, hb, hml, hown, hts⟩ (cx_lineFor l k b (by omega) (by omega)) (cwx_lineFor hts ⟨by decide, by decide⟩) hw rfl hl.1 rfl (Nat.le_of_ble_eq_true rfl) dX0_dirtyLine_9 ⟨Nat.zero_le _, Nat.zero_le _⟩ (fun H locs hw => ?_)
      refine lv_istore_n (lv' := [(3, .int (nI (2 * k + b % 2))), (2, .int (nI k)), (0, .ref (o 0)), (1, .int (nI b))]) hx hb dX0_dirtyLine_12 rfl hl (by decide) rfl (fun ls hl => ?_)
      refine lv_aload_n hx hb dX0_dirtyLine_13 rfl (lv_at hl 2 rfl) ?_
      refine lv_iload_n hx hb dX0_dirtyLine_14 rfl (lv_at hl 1 rfl) ?_
      refine lv_iload_n hx hb dX0_dirtyLine_15 rfl (lv_at hl 3 rfl) ?_
      refine x_ci (rest := []) ⟨hx, hb, hml, hown, hts⟩ (cx_holds l D o cA S k b (by omega) (by omega)) (cwx_holds hts ⟨by decide, by decide⟩) hw rfl hl.1 rfl (Nat.le_of_ble_eq_true rfl) dX0_dirtyLine_16 ⟨Nat.zero_le _, Nat.zero_le _⟩ (fun H locs hw => ?_)
      refine lv_if_eq (tgt := 36) hx hb dX0_dirtyLine_19 (by decide) (fun g1 => ?_) (fun g1 => ?_)
      · have g1 := bI_z.mp g1
        refine lv_iinc (k := 1) (v := nI (k + 1)) (lv' := [(2, .int (nI (k + 1))), (3, .int (nI (2 * k + b % 2))), (0, .ref (o 0)), (1, .int (nI b))]) hx hb dX0_dirtyLine_36 hl rfl (lw_inc k 1) (by decide) rfl (fun ls hl => ?_)
        refine lv_goto (tgt := 2) hx hb dX0_dirtyLine_39 (by decide) ?_
        exact ih (k + 1) (by omega) _ _ _ (lv_sub hl [0, 2, 3] rfl) hw (by rw [← hf]; simp [xDlF, g1])
      · have g1 := bI_n.mp g1
        refine lv_aload_n hx hb dX0_dirtyLine_22 rfl (lv_at hl 2 rfl) ?_
        refine x_g0 hx hb hts hown hw dX0_dirtyLine_23 ?_
        refine lv_iload_n hx hb dX0_dirtyLine_26 rfl (lv_at hl 0 rfl) ?_
        refine x_l0 (n := 2 * k + b % 2) hx hb hw (by omega) dX0_dirtyLine_27 ?_
        refine x_cs (rest := []) ⟨hx, hb, hml, hown, hts⟩ (cx_isDirty l (S.1 0 (2 * k + b % 2))) (cwx_isDirty hts ⟨by decide, by decide⟩) hw rfl hl.1 rfl (Nat.le_of_ble_eq_true rfl) dX0_dirtyLine_28 ⟨Nat.zero_le _, Nat.zero_le _⟩ (fun H locs hw => ?_)
        refine lv_if_eq (tgt := 36) hx hb dX0_dirtyLine_31 (by decide) (fun g2 => ?_) (fun g2 => ?_)
        · have g2 := bI_z.mp g2
          refine lv_iinc (k := 1) (v := nI (k + 1)) (lv' := [(2, .int (nI (k + 1))), (3, .int (nI (2 * k + b % 2))), (0, .ref (o 0)), (1, .int (nI b))]) hx hb dX0_dirtyLine_36 hl rfl (lw_inc k 1) (by decide) rfl (fun ls hl => ?_)
          refine lv_goto (tgt := 2) hx hb dX0_dirtyLine_39 (by decide) ?_
          exact ih (k + 1) (by omega) _ _ _ (lv_sub hl [0, 2, 3] rfl) hw (by rw [← hf]; simp [xDlF, g1, g2])
        · have g2 := bI_n.mp g2
          refine lv_iload_n hx hb dX0_dirtyLine_34 rfl (lv_at hl 0 rfl) ?_
          exact x_reti hx hb hr hlocks hw ⟨by rw [← hf]; simp [xDlF, g1, g2], rfl⟩ dX0_dirtyLine_35
  refine lv_iconst (v := 0) hx hb dX0_dirtyLine_0 (by decide) ?_
  refine lv_istore_n (lv' := [(2, .int 0), (0, .ref (o 0)), (1, .int (nI b))]) hx hb dX0_dirtyLine_1 rfl hl (by decide) rfl (fun ls hl => ?_)
  exact loop 4 0 rfl _ _ _ (lv_sub hl [0, 1, 2] rfl) hw rfl
theorem cwx_dirtyLine {R : Room} {s : State} {args : Array Value} (hts : ∀ w ∈ GT, w.before args s = true) (hR : 2 + 1 ≤ R.frames ∧ 8 + (4 + 11) + 40 * 2 ≤ R.locals) : CallW R s args RX0 RX0 135 yX0_dirtyLine cX0_dirtyLine 4 (some .int) ((.code yX0_dirtyLine cX0_dirtyLine 4 (some .int) : Cond) :: GT) (rmD 2) 0 0 1 :=
  cwV 1 hts (show GoodIn GT (wsV RX0 135 RX0 yX0_dirtyLine ((.code yX0_dirtyLine cX0_dirtyLine 4 (some .int) : Cond) :: GT)) from lw_gin (lw_gin (lw_gin (lw_gin (lw_gin lw_self gw_132) gw_1) gw_289) gw_131) gw_130) rfl rfl rfl (by decide +kernel) hR
set_option maxRecDepth 100000 in
set_option maxHeartbeats 4000000 in
theorem cx_dropOthers (l : Launch) (D : va_G) (o : Nat → Nat) (cA : ClassId) (S : SX) (u b : Nat) (hu : u < 4) (hbb : b < 16) : xMv l D o cA yX0_dropOthers cX0_dropOthers 4 2 [.ref (o 0), .int (nI u), .int (nI b)] S (xDrF u b 4 0 S) := by
  intro sz
  refine x_met (by decide) rfl (Nat.le_of_ble_eq_true rfl) ?_
  intro P0 e s m below meth c ls hsz hx hb hml hr hlocks hown hts hl hw
  subst hsz
  have hl : lv_has ls 4 [(0, .ref (o 0)), (1, .int (nI u)), (2, .int (nI b))] := hl
  have loop : ∀ (n k : Nat), n + k = 4 → ∀ (S' : SX) (H : Heap) (locs : List Loc) (ls : Array Slot), lv_has ls 4 [(3, .int (nI k)), (0, .ref (o 0)), (1, .int (nI u)), (2, .int (nI b))] → xW D o cA (xA o s.heap.size) s s.heap S' H locs → xDrF u b n k S' = xDrF u b 4 0 S → W P0 l e (rmD 2) s m ([.ref (o 0), .int (nI u), .int (nI b)]).toArray below meth c H locs 0 0 (MQ below (xQv D o cA s.heap.size (xDrF u b 4 0 S)) ([.ref (o 0), .int (nI u), .int (nI b)]).toArray s 0 0 (xA o s.heap.size)) (F0 m 2 ls []) := by
    intro n
    induction n with
    | zero =>
      intro k hk S' H locs ls hl hw hf
      obtain rfl : k = 4 := by omega
      refine lv_iload_n hx hb dX0_dropOthers_2 rfl (lv_at hl 0 rfl) ?_
      refine lv_iconst (v := 4) hx hb dX0_dropOthers_3 (by decide) ?_
      refine lv_icmp_ge (tgt := 38) hx hb dX0_dropOthers_4 (by decide) (fun _ => ?_) (fun h9 => absurd (by decide) h9)
      exact x_retv hx hb hr hlocks hw (by rw [← hf]; rfl) dX0_dropOthers_38
    | succ n ih =>
      intro k hk S' H locs ls hl hw hf
      refine lv_iload_n hx hb dX0_dropOthers_2 rfl (lv_at hl 0 rfl) ?_
      refine lv_iconst (v := 4) hx hb dX0_dropOthers_3 (by decide) ?_
      refine lv_icmp_ge (tgt := 38) hx hb dX0_dropOthers_4 (by decide) (fun h9 => absurd h9 (nI_ge (a := k) (b := 4) (by omega) (by decide))) (fun _ => ?_)
      refine lv_iload_n hx hb dX0_dropOthers_7 rfl (lv_at hl 0 rfl) ?_
      refine lv_iload_n hx hb dX0_dropOthers_8 rfl (lv_at hl 2 rfl) ?_
      refine lv_icmp_eq (tgt := 32) hx hb dX0_dropOthers_9 (by decide) (fun g1 => ?_) (fun g1 => ?_)
      · have g1 : k = u := (nI_eq (a := k) (b := u) (by omega) (by omega)).mp g1
        refine lv_iinc (k := 0) (v := nI (k + 1)) (lv' := [(3, .int (nI (k + 1))), (0, .ref (o 0)), (1, .int (nI u)), (2, .int (nI b))]) hx hb dX0_dropOthers_32 hl rfl (lw_inc k 1) (by decide) rfl (fun ls hl => ?_)
        refine lv_goto (tgt := 2) hx hb dX0_dropOthers_35 (by decide) ?_
        exact ih (k + 1) (by omega) _ _ _ _ (lv_sub hl [0, 1, 2, 3] rfl) hw (by rw [← hf]; simp [xDrF, xDr1, g1])
      · have g1 : ¬ k = u := fun h9 => g1 ((nI_eq (a := k) (b := u) (by omega) (by omega)).mpr h9)
        refine lv_aload_n hx hb dX0_dropOthers_12 rfl (lv_at hl 1 rfl) ?_
        refine lv_iload_n hx hb dX0_dropOthers_13 rfl (lv_at hl 0 rfl) ?_
        refine lv_iload_n hx hb dX0_dropOthers_14 rfl (lv_at hl 3 rfl) ?_
        refine x_ci (rest := []) ⟨hx, hb, hml, hown, hts⟩ (cx_holds l D o cA S' k b (by omega) (by omega)) (cwx_holds hts ⟨by decide, by decide⟩) hw rfl hl.1 rfl (Nat.le_of_ble_eq_true rfl) dX0_dropOthers_15 ⟨Nat.zero_le _, Nat.zero_le _⟩ (fun H locs hw => ?_)
        refine lv_if_eq (tgt := 32) hx hb dX0_dropOthers_18 (by decide) (fun g2 => ?_) (fun g2 => ?_)
        · have g2 := bI_z.mp g2
          refine lv_iinc (k := 0) (v := nI (k + 1)) (lv' := [(3, .int (nI (k + 1))), (0, .ref (o 0)), (1, .int (nI u)), (2, .int (nI b))]) hx hb dX0_dropOthers_32 hl rfl (lw_inc k 1) (by decide) rfl (fun ls hl => ?_)
          refine lv_goto (tgt := 2) hx hb dX0_dropOthers_35 (by decide) ?_
          exact ih (k + 1) (by omega) _ _ _ _ (lv_sub hl [0, 1, 2, 3] rfl) hw (by rw [← hf]; simp [xDrF, xDr1, g1, g2])
        · have g2 := bI_n.mp g2
          refine lv_aload_n hx hb dX0_dropOthers_21 rfl (lv_at hl 1 rfl) ?_
          refine x_g0 hx hb hts hown hw dX0_dropOthers_22 ?_
          refine lv_iload_n hx hb dX0_dropOthers_25 rfl (lv_at hl 0 rfl) ?_
          refine lv_iload_n hx hb dX0_dropOthers_26 rfl (lv_at hl 3 rfl) ?_
          refine x_cs (rest := [.ref (o 1)]) ⟨hx, hb, hml, hown, hts⟩ (cx_lineFor l k b (by omega) (by omega)) (cwx_lineFor hts ⟨by decide, by decide⟩) hw rfl hl.1 rfl (Nat.le_of_ble_eq_true rfl) dX0_dropOthers_27 ⟨Nat.zero_le _, Nat.zero_le _⟩ (fun H locs hw => ?_)
          refine lv_iconst (v := 0) hx hb dX0_dropOthers_30 (by decide) ?_
          refine x_s0 (n := 2 * k + b % 2) (x := 0) hx hb hw (by omega) dX0_dropOthers_31 (fun H locs hw => ?_)
          refine lv_iinc (k := 0) (v := nI (k + 1)) (lv' := [(3, .int (nI (k + 1))), (0, .ref (o 0)), (1, .int (nI u)), (2, .int (nI b))]) hx hb dX0_dropOthers_32 hl rfl (lw_inc k 1) (by decide) rfl (fun ls hl => ?_)
          refine lv_goto (tgt := 2) hx hb dX0_dropOthers_35 (by decide) ?_
          exact ih (k + 1) (by omega) _ _ _ _ (lv_sub hl [0, 1, 2, 3] rfl) hw (by rw [← hf]; simp [xDrF, xDr1, g1, g2])
  refine lv_iconst (v := 0) hx hb dX0_dropOthers_0 (by decide) ?_
  refine lv_istore_n (lv' := [(3, .int 0), (0, .ref (o 0)), (1, .int (nI u)), (2, .int (nI b))]) hx hb dX0_dropOthers_1 rfl hl (by decide) rfl (fun ls hl => ?_)
  exact loop 4 0 rfl _ _ _ _ (lv_sub hl [0, 1, 2, 3] rfl) hw rfl
theorem cwx_dropOthers {R : Room} {s : State} {args : Array Value} (hts : ∀ w ∈ GT, w.before args s = true) (hR : 2 + 1 ≤ R.frames ∧ 8 + (4 + 11) + 40 * 2 ≤ R.locals) : CallW R s args RX0 RX0 129 yX0_dropOthers cX0_dropOthers 4 none ((.code yX0_dropOthers cX0_dropOthers 4 none : Cond) :: GT) (rmD 2) 0 0 2 :=
  cwV 2 hts (show GoodIn GT (wsV RX0 129 RX0 yX0_dropOthers ((.code yX0_dropOthers cX0_dropOthers 4 none : Cond) :: GT)) from lw_gin (lw_gin (lw_gin (lw_gin (lw_gin lw_self gw_135) gw_1) gw_290) gw_134) gw_133) rfl rfl rfl (by decide +kernel) hR
set_option maxRecDepth 100000 in
set_option maxHeartbeats 4000000 in
theorem cx_yieldToReader (l : Launch) (D : va_G) (o : Nat → Nat) (cA : ClassId) (S : SX) (i b : Nat) (hi : i < 8) (hbb : b < 16) (hB : S.1 1 i = nI b) : xMv l D o cA yX0_yieldToReader cX0_yieldToReader 3 2 [.ref (o 0), .int (nI i)] S (xYi S i) := by
  intro sz
  refine x_met (by decide) rfl (Nat.le_of_ble_eq_true rfl) ?_
  intro P0 e s m below meth c ls hsz hx hb hml hr hlocks hown hts hl hw
  subst hsz
  have hl : lv_has ls 3 [(0, .ref (o 0)), (1, .int (nI i))] := hl
  refine lv_aload_n hx hb dX0_yieldToReader_0 rfl (lv_at hl 0 rfl) ?_
  refine x_g0 hx hb hts hown hw dX0_yieldToReader_1 ?_
  refine lv_iload_n hx hb dX0_yieldToReader_4 rfl (lv_at hl 1 rfl) ?_
  refine x_l0 (n := i) hx hb hw (by omega) dX0_yieldToReader_5 ?_
  refine x_cs (rest := []) ⟨hx, hb, hml, hown, hts⟩ (cx_isDirty l (S.1 0 i)) (cwx_isDirty hts ⟨by decide, by decide⟩) hw rfl hl.1 rfl (Nat.le_of_ble_eq_true rfl) dX0_yieldToReader_6 ⟨Nat.zero_le _, Nat.zero_le _⟩ (fun H locs hw => ?_)
  refine lv_istore_n (lv' := [(2, .int (bI (xDi (S.1 0 i)))), (0, .ref (o 0)), (1, .int (nI i))]) hx hb dX0_yieldToReader_9 rfl hl (by decide) rfl (fun ls hl => ?_)
  refine lv_iload_n hx hb dX0_yieldToReader_10 rfl (lv_at hl 0 rfl) ?_
  refine lv_if_eq (tgt := 30) hx hb dX0_yieldToReader_11 (by decide) (fun g1 => ?_) (fun g1 => ?_)
  · have g1 := bI_z.mp g1
    refine lv_iload_n hx hb dX0_yieldToReader_30 rfl (lv_at hl 0 rfl) ?_
    refine lv_if_eq (tgt := 39) hx hb dX0_yieldToReader_31 (by decide) (fun _ => ?_) (fun h9 => absurd (bI_z.mpr g1) h9)
    refine lv_aload_n hx hb dX0_yieldToReader_39 rfl (lv_at hl 1 rfl) ?_
    refine x_g0 hx hb hts hown hw dX0_yieldToReader_40 ?_
    refine lv_iload_n hx hb dX0_yieldToReader_43 rfl (lv_at hl 2 rfl) ?_
    refine lv_iconst (v := 1) hx hb dX0_yieldToReader_44 (by decide) ?_
    refine x_s0 (n := i) (x := 1) hx hb hw (by omega) dX0_yieldToReader_45 (fun H locs hw => ?_)
    exact x_retv hx hb hr hlocks hw (by simp [xYi, g1]) dX0_yieldToReader_46
  · have g1 := bI_n.mp g1
    refine lv_aload_n hx hb dX0_yieldToReader_14 rfl (lv_at hl 1 rfl) ?_
    refine x_f0 hx hb hts hown hw dX0_yieldToReader_15 ?_
    refine lv_iconst (v := 2) hx hb dX0_yieldToReader_18 (by decide) ?_
    refine lv_icmp_lt (tgt := 30) hx hb dX0_yieldToReader_19 (by decide) (fun g2 => ?_) (fun g2 => ?_)
    · refine lv_iload_n hx hb dX0_yieldToReader_30 rfl (lv_at hl 0 rfl) ?_
      refine lv_if_eq (tgt := 39) hx hb dX0_yieldToReader_31 (by decide) (fun h9 => absurd h9 (bI_n.mpr g1)) (fun _ => ?_)
      refine lv_aload_n hx hb dX0_yieldToReader_34 rfl (lv_at hl 1 rfl) ?_
      refine lv_iload_n hx hb dX0_yieldToReader_35 rfl (lv_at hl 2 rfl) ?_
      refine x_cv (rest := []) ⟨hx, hb, hml, hown, hts⟩ (cx_copyToMemory l D o cA S i b (by omega) hbb hB) (cwx_copyToMemory hts ⟨by decide, by decide⟩) hw rfl hl.1 rfl (Nat.le_of_ble_eq_true rfl) dX0_yieldToReader_36 ⟨Nat.zero_le _, Nat.zero_le _⟩ (fun H locs hw => ?_)
      refine lv_aload_n hx hb dX0_yieldToReader_39 rfl (lv_at hl 1 rfl) ?_
      refine x_g0 hx hb hts hown hw dX0_yieldToReader_40 ?_
      refine lv_iload_n hx hb dX0_yieldToReader_43 rfl (lv_at hl 2 rfl) ?_
      refine lv_iconst (v := 1) hx hb dX0_yieldToReader_44 (by decide) ?_
      refine x_s0 (n := i) (x := 1) hx hb hw (by omega) dX0_yieldToReader_45 (fun H locs hw => ?_)
      exact x_retv hx hb hr hlocks hw (by simp [xYi, g1, g2]) dX0_yieldToReader_46
    · refine lv_aload_n hx hb dX0_yieldToReader_22 rfl (lv_at hl 1 rfl) ?_
      refine x_g0 hx hb hts hown hw dX0_yieldToReader_23 ?_
      refine lv_iload_n hx hb dX0_yieldToReader_26 rfl (lv_at hl 2 rfl) ?_
      refine lv_iconst (v := 3) hx hb dX0_yieldToReader_27 (by decide) ?_
      refine x_s0 (n := i) (x := 3) hx hb hw (by omega) dX0_yieldToReader_28 (fun H locs hw => ?_)
      exact x_retv hx hb hr hlocks hw (by simp [xYi, g1, g2]) dX0_yieldToReader_29
theorem cwx_yieldToReader {R : Room} {s : State} {args : Array Value} (hts : ∀ w ∈ GT, w.before args s = true) (hR : 2 + 1 ≤ R.frames ∧ 8 + (3 + 11) + 40 * 2 ≤ R.locals) : CallW R s args RX0 RX0 138 yX0_yieldToReader cX0_yieldToReader 3 none ((.code yX0_yieldToReader cX0_yieldToReader 3 none : Cond) :: GT) (rmD 2) 0 0 1 :=
  cwV 1 hts (show GoodIn GT (wsV RX0 138 RX0 yX0_yieldToReader ((.code yX0_yieldToReader cX0_yieldToReader 3 none : Cond) :: GT)) from lw_gin (lw_gin (lw_gin (lw_gin (lw_gin lw_self gw_141) gw_1) gw_292) gw_140) gw_139) rfl rfl rfl (by decide +kernel) hR
set_option maxRecDepth 100000 in
set_option maxHeartbeats 4000000 in
theorem cx_shareWithOthers (l : Launch) (D : va_G) (o : Nat → Nat) (cA : ClassId) (S : SX) (u b : Nat) (hu : u < 4) (hbb : b < 16) (hok : okB S) : xMi l D o cA yX0_shareWithOthers cX0_shareWithOthers 5 (some .int) 3 [.ref (o 0), .int (nI u), .int (nI b)] S ((xSh S u b).1) ((xSh S u b).2) := by
  intro sz
  refine x_met (by decide) rfl (Nat.le_of_ble_eq_true rfl) ?_
  intro P0 e s m below meth c ls hsz hx hb hml hr hlocks hown hts hl hw
  subst hsz
  have hl : lv_has ls 5 [(0, .ref (o 0)), (1, .int (nI u)), (2, .int (nI b))] := hl
  have loop : ∀ (n k : Nat), n + k = 4 → ∀ (S' : SX) (al : Bool) (H : Heap) (locs : List Loc) (ls : Array Slot), lv_has ls 5 [(4, .int (nI k)), (3, .int (bI al)), (0, .ref (o 0)), (1, .int (nI u)), (2, .int (nI b))] → xW D o cA (xA o s.heap.size) s s.heap S' H locs → okB S' → xShF u b n k (S', al) = xShF u b 4 0 (S, true) → W P0 l e (rmD 3) s m ([.ref (o 0), .int (nI u), .int (nI b)]).toArray below meth c H locs 0 0 (MQ below (xQi D o cA s.heap.size ((xSh S u b).1) ((xSh S u b).2)) ([.ref (o 0), .int (nI u), .int (nI b)]).toArray s 0 0 (xA o s.heap.size)) (F0 m 5 ls []) := by
    intro n
    induction n with
    | zero =>
      intro k hk S' al H locs ls hl hw hok hf
      obtain rfl : k = 4 := by omega
      refine lv_iload hx hb dX0_shareWithOthers_5 (lv_at hl 0 rfl) ?_
      refine lv_iconst (v := 4) hx hb dX0_shareWithOthers_7 (by decide) ?_
      refine lv_icmp_ge (tgt := 45) hx hb dX0_shareWithOthers_8 (by decide) (fun _ => ?_) (fun h9 => absurd (by decide) h9)
      refine lv_iload_n hx hb dX0_shareWithOthers_45 rfl (lv_at hl 1 rfl) ?_
      refine lv_if_eq (tgt := 60) hx hb dX0_shareWithOthers_46 (by decide) (fun g1 => ?_) (fun g1 => ?_)
      · have g1 := bI_z.mp g1
        refine lv_iconst (v := 1) hx hb dX0_shareWithOthers_60 (by decide) ?_
        exact x_reti hx hb hr hlocks hw ⟨by simp [xSh, ← show (S', al) = xShF u b 4 0 (S, true) from hf, g1], by simp [xSh, ← show (S', al) = xShF u b 4 0 (S, true) from hf]⟩ dX0_shareWithOthers_61
      · have g1 := bI_n.mp g1
        refine lv_aload_n hx hb dX0_shareWithOthers_49 rfl (lv_at hl 2 rfl) ?_
        refine x_f0 hx hb hts hown hw dX0_shareWithOthers_50 ?_
        refine lv_if_eq (tgt := 60) hx hb dX0_shareWithOthers_53 (by decide) (fun g2 => ?_) (fun g2 => ?_)
        · refine lv_iconst (v := 1) hx hb dX0_shareWithOthers_60 (by decide) ?_
          exact x_reti hx hb hr hlocks hw ⟨by simp [xSh, ← show (S', al) = xShF u b 4 0 (S, true) from hf, g1, g2], by simp [xSh, ← show (S', al) = xShF u b 4 0 (S, true) from hf]⟩ dX0_shareWithOthers_61
        · refine lv_iconst (v := 2) hx hb dX0_shareWithOthers_56 (by decide) ?_
          refine lv_goto (tgt := 61) hx hb dX0_shareWithOthers_57 (by decide) ?_
          exact x_reti hx hb hr hlocks hw ⟨by simp [xSh, ← show (S', al) = xShF u b 4 0 (S, true) from hf, g1, g2], by simp [xSh, ← show (S', al) = xShF u b 4 0 (S, true) from hf]⟩ dX0_shareWithOthers_61
    | succ n ih =>
      intro k hk S' al H locs ls hl hw hok hf
      refine lv_iload hx hb dX0_shareWithOthers_5 (lv_at hl 0 rfl) ?_
      refine lv_iconst (v := 4) hx hb dX0_shareWithOthers_7 (by decide) ?_
      refine lv_icmp_ge (tgt := 45) hx hb dX0_shareWithOthers_8 (by decide) (fun h9 => absurd h9 (nI_ge (a := k) (b := 4) (by omega) (by decide))) (fun _ => ?_)
      refine lv_iload hx hb dX0_shareWithOthers_11 (lv_at hl 0 rfl) ?_
      refine lv_iload_n hx hb dX0_shareWithOthers_13 rfl (lv_at hl 3 rfl) ?_
      refine lv_icmp_eq (tgt := 39) hx hb dX0_shareWithOthers_14 (by decide) (fun g3 => ?_) (fun g3 => ?_)
      · have g3 : k = u := (nI_eq (a := k) (b := u) (by omega) (by omega)).mp g3
        refine lv_iinc (k := 0) (v := nI (k + 1)) (lv' := [(4, .int (nI (k + 1))), (3, .int (bI al)), (0, .ref (o 0)), (1, .int (nI u)), (2, .int (nI b))]) hx hb dX0_shareWithOthers_39 hl rfl (lw_inc k 1) (by decide) rfl (fun ls hl => ?_)
        refine lv_goto (tgt := 5) hx hb dX0_shareWithOthers_42 (by decide) ?_
        exact ih (k + 1) (by omega) _ al _ _ _ (lv_sub hl [0, 1, 2, 3, 4] rfl) hw hok (by rw [← hf]; simp [xShF, xSh1, g3])
      · have g3 : ¬ k = u := fun h9 => g3 ((nI_eq (a := k) (b := u) (by omega) (by omega)).mpr h9)
        refine lv_aload_n hx hb dX0_shareWithOthers_17 rfl (lv_at hl 2 rfl) ?_
        refine lv_iload hx hb dX0_shareWithOthers_18 (lv_at hl 0 rfl) ?_
        refine lv_iload_n hx hb dX0_shareWithOthers_20 rfl (lv_at hl 4 rfl) ?_
        refine x_ci (rest := []) ⟨hx, hb, hml, hown, hts⟩ (cx_holds l D o cA S' k b (by omega) (by omega)) (cwx_holds hts ⟨by decide, by decide⟩) hw rfl hl.1 rfl (Nat.le_of_ble_eq_true rfl) dX0_shareWithOthers_21 ⟨Nat.zero_le _, Nat.zero_le _⟩ (fun H locs hw => ?_)
        refine lv_if_eq (tgt := 39) hx hb dX0_shareWithOthers_24 (by decide) (fun g4 => ?_) (fun g4 => ?_)
        · have g4 := bI_z.mp g4
          refine lv_iinc (k := 0) (v := nI (k + 1)) (lv' := [(4, .int (nI (k + 1))), (3, .int (bI al)), (0, .ref (o 0)), (1, .int (nI u)), (2, .int (nI b))]) hx hb dX0_shareWithOthers_39 hl rfl (lw_inc k 1) (by decide) rfl (fun ls hl => ?_)
          refine lv_goto (tgt := 5) hx hb dX0_shareWithOthers_42 (by decide) ?_
          exact ih (k + 1) (by omega) _ al _ _ _ (lv_sub hl [0, 1, 2, 3, 4] rfl) hw hok (by rw [← hf]; simp [xShF, xSh1, g3, g4])
        · have g4 := bI_n.mp g4
          refine lv_iconst (v := 0) hx hb dX0_shareWithOthers_27 (by decide) ?_
          refine lv_istore_n (lv' := [(3, .int 0), (4, .int (nI k)), (0, .ref (o 0)), (1, .int (nI u)), (2, .int (nI b))]) hx hb dX0_shareWithOthers_28 rfl hl (by decide) rfl (fun ls hl => ?_)
          refine lv_aload_n hx hb dX0_shareWithOthers_29 rfl (lv_at hl 2 rfl) ?_
          refine lv_iload hx hb dX0_shareWithOthers_30 (lv_at hl 1 rfl) ?_
          refine lv_iload_n hx hb dX0_shareWithOthers_32 rfl (lv_at hl 4 rfl) ?_
          refine x_cs (rest := [.ref (o 0)]) ⟨hx, hb, hml, hown, hts⟩ (cx_lineFor l k b (by omega) (by omega)) (cwx_lineFor hts ⟨by decide, by decide⟩) hw rfl hl.1 rfl (Nat.le_of_ble_eq_true rfl) dX0_shareWithOthers_33 ⟨Nat.zero_le _, Nat.zero_le _⟩ (fun H locs hw => ?_)
          obtain ⟨c9, hc9, hB9⟩ := hok (2 * k + b % 2) (by omega)
          refine x_cv (rest := []) ⟨hx, hb, hml, hown, hts⟩ (cx_yieldToReader l D o cA S' (2 * k + b % 2) c9 (by omega) hc9 hB9) (cwx_yieldToReader hts ⟨by decide, by decide⟩) hw rfl hl.1 rfl (Nat.le_of_ble_eq_true rfl) dX0_shareWithOthers_36 ⟨Nat.zero_le _, Nat.zero_le _⟩ (fun H locs hw => ?_)
          refine lv_iinc (k := 1) (v := nI (k + 1)) (lv' := [(4, .int (nI (k + 1))), (3, .int 0), (0, .ref (o 0)), (1, .int (nI u)), (2, .int (nI b))]) hx hb dX0_shareWithOthers_39 hl rfl (lw_inc k 1) (by decide) rfl (fun ls hl => ?_)
          refine lv_goto (tgt := 5) hx hb dX0_shareWithOthers_42 (by decide) ?_
          exact ih (k + 1) (by omega) _ false _ _ _ (lv_sub hl [0, 1, 2, 3, 4] rfl) hw (fun i hi => by rw [xYi_1]; exact hok i hi) (by rw [← hf]; simp [xShF, xSh1, g3, g4])
  refine lv_iconst (v := 1) hx hb dX0_shareWithOthers_0 (by decide) ?_
  refine lv_istore_n (lv' := [(3, .int 1), (0, .ref (o 0)), (1, .int (nI u)), (2, .int (nI b))]) hx hb dX0_shareWithOthers_1 rfl hl (by decide) rfl (fun ls hl => ?_)
  refine lv_iconst (v := 0) hx hb dX0_shareWithOthers_2 (by decide) ?_
  refine lv_istore (lv' := [(4, .int 0), (3, .int 1), (0, .ref (o 0)), (1, .int (nI u)), (2, .int (nI b))]) hx hb dX0_shareWithOthers_3 hl (by decide) rfl (fun ls hl => ?_)
  exact loop 4 0 rfl _ true _ _ _ (lv_sub hl [0, 1, 2, 3, 4] rfl) hw hok rfl
theorem cwx_shareWithOthers {R : Room} {s : State} {args : Array Value} (hts : ∀ w ∈ GT, w.before args s = true) (hR : 3 + 1 ≤ R.frames ∧ 8 + (5 + 11) + 40 * 3 ≤ R.locals) : CallW R s args RX0 RX0 132 yX0_shareWithOthers cX0_shareWithOthers 5 (some .int) ((.code yX0_shareWithOthers cX0_shareWithOthers 5 (some .int) : Cond) :: GT) (rmD 3) 0 0 2 :=
  cwV 2 hts (show GoodIn GT (wsV RX0 132 RX0 yX0_shareWithOthers ((.code yX0_shareWithOthers cX0_shareWithOthers 5 (some .int) : Cond) :: GT)) from lw_gin (lw_gin (lw_gin (lw_gin (lw_gin lw_self gw_138) gw_1) gw_291) gw_137) gw_136) rfl rfl rfl (by decide +kernel) hR
set_option maxRecDepth 100000 in
set_option maxHeartbeats 4000000 in
theorem cx_fetchWords (l : Launch) (D : va_G) (o : Nat → Nat) (cA : ClassId) (S : SX) (i b : Nat) (hi : i < 8) (hbb : b < 16) : xMv l D o cA yX0_fetchWords cX0_fetchWords 4 3 [.ref (o 0), .int (nI i), .int (nI b)] S (xFe S i b) := by
  intro sz
  refine x_met (by decide) rfl (Nat.le_of_ble_eq_true rfl) ?_
  intro P0 e s m below meth c ls hsz hx hb hml hr hlocks hown hts hl hw
  subst hsz
  have hl : lv_has ls 4 [(0, .ref (o 0)), (1, .int (nI i)), (2, .int (nI b))] := hl
  refine lv_aload_n hx hb dX0_fetchWords_0 rfl (lv_at hl 0 rfl) ?_
  refine lv_iload_n hx hb dX0_fetchWords_1 rfl (lv_at hl 2 rfl) ?_
  refine x_ci (rest := []) ⟨hx, hb, hml, hown, hts⟩ (cx_dirtyLine l D o cA S b (by omega)) (cwx_dirtyLine hts ⟨by decide, by decide⟩) hw rfl hl.1 rfl (Nat.le_of_ble_eq_true rfl) dX0_fetchWords_2 ⟨Nat.zero_le _, Nat.zero_le _⟩ (fun H locs hw => ?_)
  refine lv_istore_n (lv' := [(3, .int (xDl S b)), (0, .ref (o 0)), (1, .int (nI i)), (2, .int (nI b))]) hx hb dX0_fetchWords_5 rfl hl (by decide) rfl (fun ls hl => ?_)
  refine lv_iload_n hx hb dX0_fetchWords_6 rfl (lv_at hl 0 rfl) ?_
  refine lv_iconst (v := -1) hx hb dX0_fetchWords_7 (by decide) ?_
  refine lv_icmp_ne (tgt := 32) hx hb dX0_fetchWords_8 (by decide) (fun g1 => ?_) (fun g1 => ?_)
  · obtain ⟨c9, hc9, e9⟩ := xDl_nat hbb g1
    refine lv_aload_n hx hb dX0_fetchWords_32 rfl (lv_at hl 1 rfl) ?_
    refine x_g2 hx hb hts hown hw dX0_fetchWords_33 ?_
    refine lv_iload_n hx hb dX0_fetchWords_36 rfl (lv_at hl 0 rfl) ?_
    refine lw_top (y := nI c9) e9 ?_
    refine lv_iconst (v := 2) hx hb dX0_fetchWords_37 (by decide) ?_
    refine lv_imul hx hb dX0_fetchWords_38 ?_
    refine lw_top (y := nI (c9 * 2)) (pk_mul c9 2) ?_
    refine lv_aload_n hx hb dX0_fetchWords_39 rfl (lv_at hl 1 rfl) ?_
    refine x_g2 hx hb hts hown hw dX0_fetchWords_40 ?_
    refine lv_iload_n hx hb dX0_fetchWords_43 rfl (lv_at hl 2 rfl) ?_
    refine lv_iconst (v := 2) hx hb dX0_fetchWords_44 (by decide) ?_
    refine lv_imul hx hb dX0_fetchWords_45 ?_
    refine lw_top (y := nI (i * 2)) (pk_mul i 2) ?_
    refine lv_iconst (v := 2) hx hb dX0_fetchWords_46 (by decide) ?_
    refine x_cp22 (sp := c9 * 2) (dp := i * 2) (n := 2) (rest := []) hx hb (hml.trans hl.1.symm) hts hown hw (by omega) (by omega) (by decide) (by decide +kernel) dX0_fetchWords_47 (fun H locs hw => ?_)
    exact x_retv hx hb hr hlocks hw (by unfold xFe; rw [if_neg g1, e9, nI_clamp (show c9 < 2 ^ 31 by omega), Nat.mul_comm 2 c9, Nat.mul_comm 2 i]) dX0_fetchWords_50
  · refine lv_aload_n hx hb dX0_fetchWords_11 rfl (lv_at hl 1 rfl) ?_
    refine x_g3 hx hb hts hown hw dX0_fetchWords_12 ?_
    refine lv_iload_n hx hb dX0_fetchWords_15 rfl (lv_at hl 3 rfl) ?_
    refine lv_iconst (v := 2) hx hb dX0_fetchWords_16 (by decide) ?_
    refine lv_imul hx hb dX0_fetchWords_17 ?_
    refine lw_top (y := nI (b * 2)) (pk_mul b 2) ?_
    refine lv_aload_n hx hb dX0_fetchWords_18 rfl (lv_at hl 1 rfl) ?_
    refine x_g2 hx hb hts hown hw dX0_fetchWords_19 ?_
    refine lv_iload_n hx hb dX0_fetchWords_22 rfl (lv_at hl 2 rfl) ?_
    refine lv_iconst (v := 2) hx hb dX0_fetchWords_23 (by decide) ?_
    refine lv_imul hx hb dX0_fetchWords_24 ?_
    refine lw_top (y := nI (i * 2)) (pk_mul i 2) ?_
    refine lv_iconst (v := 2) hx hb dX0_fetchWords_25 (by decide) ?_
    refine x_cp32 (sp := b * 2) (dp := i * 2) (n := 2) (rest := []) hx hb (hml.trans hl.1.symm) hts hown hw (by omega) (by omega) (by decide) (by decide +kernel) dX0_fetchWords_26 (fun H locs hw => ?_)
    refine lv_goto (tgt := 50) hx hb dX0_fetchWords_29 (by decide) ?_
    exact x_retv hx hb hr hlocks hw (by unfold xFe; rw [if_pos g1, Nat.mul_comm 2 b, Nat.mul_comm 2 i]) dX0_fetchWords_50
theorem cwx_fetchWords {R : Room} {s : State} {args : Array Value} (hts : ∀ w ∈ GT, w.before args s = true) (hR : 3 + 1 ≤ R.frames ∧ 8 + (4 + 11) + 40 * 3 ≤ R.locals) : CallW R s args RX0 RX0 126 yX0_fetchWords cX0_fetchWords 4 none ((.code yX0_fetchWords cX0_fetchWords 4 none : Cond) :: GT) (rmD 3) 0 0 2 :=
  cwV 2 hts (show GoodIn GT (wsV RX0 126 RX0 yX0_fetchWords ((.code yX0_fetchWords cX0_fetchWords 4 none : Cond) :: GT)) from lw_gin (lw_gin (lw_gin (lw_gin (lw_gin lw_self gw_129) gw_1) gw_288) gw_128) gw_127) rfl rfl rfl (by decide +kernel) hR
set_option maxRecDepth 100000 in
set_option maxHeartbeats 4000000 in
theorem cx_load (l : Launch) (D : va_G) (o : Nat → Nat) (cA : ClassId) (S : SX) (u b k : Nat) (hu : u < 4) (hbb : b < 16) (hk : k < 2) (hok : okB S) : xMv l D o cA yX0_load cX0_load 6 4 [.ref (o 0), .int (nI u), .int (nI b), .int (nI k)] S (xLo S u b k) := by
  intro sz
  refine x_met (by decide) rfl (Nat.le_of_ble_eq_true rfl) ?_
  intro P0 e s m below meth c ls hsz hx hb hml hr hlocks hown hts hl hw
  subst hsz
  have hl : lv_has ls 6 [(0, .ref (o 0)), (1, .int (nI u)), (2, .int (nI b)), (3, .int (nI k))] := hl
  obtain ⟨c9, hc9, hB9⟩ := hok (2 * u + b % 2) (by omega)
  refine lv_iload_n hx hb dX0_load_0 rfl (lv_at hl 1 rfl) ?_
  refine lv_iload_n hx hb dX0_load_1 rfl (lv_at hl 2 rfl) ?_
  refine x_cs (rest := []) ⟨hx, hb, hml, hown, hts⟩ (cx_lineFor l u b (by omega) (by omega)) (cwx_lineFor hts ⟨by decide, by decide⟩) hw rfl hl.1 rfl (Nat.le_of_ble_eq_true rfl) dX0_load_2 ⟨Nat.zero_le _, Nat.zero_le _⟩ (fun H locs hw => ?_)
  refine lv_istore (lv' := [(4, .int (nI (2 * u + b % 2))), (0, .ref (o 0)), (1, .int (nI u)), (2, .int (nI b)), (3, .int (nI k))]) hx hb dX0_load_5 hl (by decide) rfl (fun ls hl => ?_)
  refine lv_aload_n hx hb dX0_load_7 rfl (lv_at hl 1 rfl) ?_
  refine lv_iload hx hb dX0_load_8 (lv_at hl 0 rfl) ?_
  refine x_ci (rest := []) ⟨hx, hb, hml, hown, hts⟩ (cx_emptyLine l D o cA S (2 * u + b % 2) c9 (by omega) hc9 hB9) (cwx_emptyLine hts ⟨by decide, by decide⟩) hw rfl hl.1 rfl (Nat.le_of_ble_eq_true rfl) dX0_load_10 ⟨Nat.zero_le _, Nat.zero_le _⟩ (fun H locs hw => ?_)
  refine lv_pop hx hb dX0_load_13 rfl ?_
  refine lv_aload_n hx hb dX0_load_14 rfl (lv_at hl 1 rfl) ?_
  refine lv_iload_n hx hb dX0_load_15 rfl (lv_at hl 4 rfl) ?_
  refine lv_iload_n hx hb dX0_load_16 rfl (lv_at hl 2 rfl) ?_
  refine lv_iload_n hx hb dX0_load_17 rfl (lv_at hl 3 rfl) ?_
  refine x_cv (rest := []) ⟨hx, hb, hml, hown, hts⟩ (cx_transact l D o cA (xEm S (2 * u + b % 2)) k u b (by omega) (by omega) (by omega)) (cwx_transact hts ⟨by decide, by decide⟩) hw rfl hl.1 rfl (Nat.le_of_ble_eq_true rfl) dX0_load_18 ⟨Nat.zero_le _, Nat.zero_le _⟩ (fun H locs hw => ?_)
  refine lv_aload_n hx hb dX0_load_21 rfl (lv_at hl 1 rfl) ?_
  refine lv_iload hx hb dX0_load_22 (lv_at hl 0 rfl) ?_
  refine lv_iload_n hx hb dX0_load_24 rfl (lv_at hl 3 rfl) ?_
  refine x_cv (rest := []) ⟨hx, hb, hml, hown, hts⟩ (cx_fetchWords l D o cA (xTr (xEm S (2 * u + b % 2)) k u b) (2 * u + b % 2) b (by omega) (by omega)) (cwx_fetchWords hts ⟨by decide, by decide⟩) hw rfl hl.1 rfl (Nat.le_of_ble_eq_true rfl) dX0_load_25 ⟨Nat.zero_le _, Nat.zero_le _⟩ (fun H locs hw => ?_)
  have hw : xW D o cA (xA o s.heap.size) s s.heap (xLoT S u b k) H locs := hw
  refine lv_iconst (v := 4) hx hb dX0_load_28 (by decide) ?_
  refine lv_istore (lv' := [(5, .int 4), (4, .int (nI (2 * u + b % 2))), (0, .ref (o 0)), (1, .int (nI u)), (2, .int (nI b)), (3, .int (nI k))]) hx hb dX0_load_29 hl (by decide) rfl (fun ls hl => ?_)
  refine lv_iload_n hx hb dX0_load_31 rfl (lv_at hl 5 rfl) ?_
  refine lv_iconst (v := 1) hx hb dX0_load_32 (by decide) ?_
  refine lv_icmp_ne (tgt := 45) hx hb dX0_load_33 (by decide) (fun g1 => ?_) (fun g1 => ?_)
  · have g1 : ¬ k = 1 := fun h9 => g1 ((nI_eq (a := k) (b := 1) (by omega) (by omega)).mpr h9)
    refine lv_aload_n hx hb dX0_load_45 rfl (lv_at hl 2 rfl) ?_
    refine lv_iload_n hx hb dX0_load_46 rfl (lv_at hl 3 rfl) ?_
    refine lv_iload_n hx hb dX0_load_47 rfl (lv_at hl 4 rfl) ?_
    refine x_ci (rest := []) ⟨hx, hb, hml, hown, hts⟩ (cx_shareWithOthers l D o cA (xLoT S u b k) u b (by omega) (by omega) (fun i hi => by rw [xLoT_1]; exact hok i hi)) (cwx_shareWithOthers hts ⟨by decide, by decide⟩) hw rfl hl.1 rfl (Nat.le_of_ble_eq_true rfl) dX0_load_48 ⟨Nat.zero_le _, Nat.zero_le _⟩ (fun H locs hw => ?_)
    refine lv_istore (lv' := [(5, .int ((xSh (xLoT S u b k) u b).2)), (4, .int (nI (2 * u + b % 2))), (0, .ref (o 0)), (1, .int (nI u)), (2, .int (nI b)), (3, .int (nI k))]) hx hb dX0_load_51 hl (by decide) rfl (fun ls hl => ?_)
    refine lv_aload_n hx hb dX0_load_53 rfl (lv_at hl 2 rfl) ?_
    refine x_g1 hx hb hts hown hw dX0_load_54 ?_
    refine lv_iload hx hb dX0_load_57 (lv_at hl 1 rfl) ?_
    refine lv_iload_n hx hb dX0_load_59 rfl (lv_at hl 4 rfl) ?_
    refine x_s1 (n := 2 * u + b % 2) (x := nI b) hx hb hw (by omega) dX0_load_60 (fun H locs hw => ?_)
    refine lv_aload_n hx hb dX0_load_61 rfl (lv_at hl 2 rfl) ?_
    refine x_g0 hx hb hts hown hw dX0_load_62 ?_
    refine lv_iload hx hb dX0_load_65 (lv_at hl 1 rfl) ?_
    refine lv_iload hx hb dX0_load_67 (lv_at hl 0 rfl) ?_
    refine x_s0 (n := 2 * u + b % 2) (x := ((xSh (xLoT S u b k) u b).2)) hx hb hw (by omega) dX0_load_69 (fun H locs hw => ?_)
    exact x_retv hx hb hr hlocks hw (by rw [xLo, xLoR, if_neg g1]; rfl) dX0_load_70
  · have g1 : k = 1 := (nI_eq (a := k) (b := 1) (by omega) (by omega)).mp g1
    refine lv_aload_n hx hb dX0_load_36 rfl (lv_at hl 2 rfl) ?_
    refine lv_iload_n hx hb dX0_load_37 rfl (lv_at hl 3 rfl) ?_
    refine lv_iload_n hx hb dX0_load_38 rfl (lv_at hl 4 rfl) ?_
    refine x_cv (rest := []) ⟨hx, hb, hml, hown, hts⟩ (cx_dropOthers l D o cA (xLoT S u b k) u b (by omega) (by omega)) (cwx_dropOthers hts ⟨by decide, by decide⟩) hw rfl hl.1 rfl (Nat.le_of_ble_eq_true rfl) dX0_load_39 ⟨Nat.zero_le _, Nat.zero_le _⟩ (fun H locs hw => ?_)
    refine lv_goto (tgt := 53) hx hb dX0_load_42 (by decide) ?_
    refine lv_aload_n hx hb dX0_load_53 rfl (lv_at hl 2 rfl) ?_
    refine x_g1 hx hb hts hown hw dX0_load_54 ?_
    refine lv_iload hx hb dX0_load_57 (lv_at hl 1 rfl) ?_
    refine lv_iload_n hx hb dX0_load_59 rfl (lv_at hl 4 rfl) ?_
    refine x_s1 (n := 2 * u + b % 2) (x := nI b) hx hb hw (by omega) dX0_load_60 (fun H locs hw => ?_)
    refine lv_aload_n hx hb dX0_load_61 rfl (lv_at hl 2 rfl) ?_
    refine x_g0 hx hb hts hown hw dX0_load_62 ?_
    refine lv_iload hx hb dX0_load_65 (lv_at hl 1 rfl) ?_
    refine lv_iload hx hb dX0_load_67 (lv_at hl 0 rfl) ?_
    refine x_s0 (n := 2 * u + b % 2) (x := 4) hx hb hw (by omega) dX0_load_69 (fun H locs hw => ?_)
    exact x_retv hx hb hr hlocks hw (by rw [xLo, xLoR, if_pos g1]; rfl) dX0_load_70
theorem cwx_load {R : Room} {s : State} {args : Array Value} (hts : ∀ w ∈ GT, w.before args s = true) (hR : 4 + 1 ≤ R.frames ∧ 8 + (6 + 11) + 40 * 4 ≤ R.locals) : CallW R s args RX0 RX0 123 yX0_load cX0_load 6 none ((.code yX0_load cX0_load 6 none : Cond) :: GT) (rmD 4) 0 0 3 :=
  cwV 3 hts (show GoodIn GT (wsV RX0 123 RX0 yX0_load ((.code yX0_load cX0_load 6 none : Cond) :: GT)) from lw_gin (lw_gin (lw_gin (lw_gin (lw_gin lw_self gw_126) gw_1) gw_287) gw_125) gw_124) rfl rfl rfl (by decide +kernel) hR
set_option maxRecDepth 100000 in
set_option maxHeartbeats 4000000 in
theorem cx_bringIn (l : Launch) (D : va_G) (o : Nat → Nat) (cA : ClassId) (S : SX) (u b k : Nat) (hu : u < 4) (hbb : b < 16) (hk : k < 2) (hok : okB S) : xMv l D o cA yX0_bringIn cX0_bringIn 4 5 [.ref (o 0), .int (nI u), .int (nI b), .int (nI k)] S (xBr S u b k) := by
  intro sz
  refine x_met (by decide) rfl (Nat.le_of_ble_eq_true rfl) ?_
  intro P0 e s m below meth c ls hsz hx hb hml hr hlocks hown hts hl hw
  subst hsz
  have hl : lv_has ls 4 [(0, .ref (o 0)), (1, .int (nI u)), (2, .int (nI b)), (3, .int (nI k))] := hl
  refine lv_aload_n hx hb dX0_bringIn_0 rfl (lv_at hl 0 rfl) ?_
  refine lv_iload_n hx hb dX0_bringIn_1 rfl (lv_at hl 1 rfl) ?_
  refine lv_iload_n hx hb dX0_bringIn_2 rfl (lv_at hl 2 rfl) ?_
  refine x_ci (rest := []) ⟨hx, hb, hml, hown, hts⟩ (cx_holds l D o cA S u b (by omega) (by omega)) (cwx_holds hts ⟨by decide, by decide⟩) hw rfl hl.1 rfl (Nat.le_of_ble_eq_true rfl) dX0_bringIn_3 ⟨Nat.zero_le _, Nat.zero_le _⟩ (fun H locs hw => ?_)
  refine lv_if_eq (tgt := 22) hx hb dX0_bringIn_6 (by decide) (fun g1 => ?_) (fun g1 => ?_)
  · have g1 := bI_z.mp g1
    refine lv_aload_n hx hb dX0_bringIn_22 rfl (lv_at hl 0 rfl) ?_
    refine lv_dup hx hb dX0_bringIn_23 rfl ?_
    refine x_f3 hx hb hts hown hw dX0_bringIn_24 ?_
    refine lv_iconst (v := 1) hx hb dX0_bringIn_27 (by decide) ?_
    refine lv_iadd hx hb dX0_bringIn_28 ?_
    refine x_p3 (x := ((S.2 3) + 1)) hx hb hts hown hw dX0_bringIn_29 (fun H locs hw => ?_)
    refine lv_aload_n hx hb dX0_bringIn_32 rfl (lv_at hl 0 rfl) ?_
    refine lv_iload_n hx hb dX0_bringIn_33 rfl (lv_at hl 1 rfl) ?_
    refine lv_iload_n hx hb dX0_bringIn_34 rfl (lv_at hl 2 rfl) ?_
    refine lv_iload_n hx hb dX0_bringIn_35 rfl (lv_at hl 3 rfl) ?_
    refine x_cv (rest := []) ⟨hx, hb, hml, hown, hts⟩ (cx_load l D o cA (zF S 3 ((S.2 3) + 1)) u b k (by omega) (by omega) (by omega) hok) (cwx_load hts ⟨by decide, by decide⟩) hw rfl hl.1 rfl (Nat.le_of_ble_eq_true rfl) dX0_bringIn_36 ⟨Nat.zero_le _, Nat.zero_le _⟩ (fun H locs hw => ?_)
    exact x_retv hx hb hr hlocks hw (by simp [xBr, g1]) dX0_bringIn_39
  · have g1 := bI_n.mp g1
    refine lv_aload_n hx hb dX0_bringIn_9 rfl (lv_at hl 0 rfl) ?_
    refine lv_dup hx hb dX0_bringIn_10 rfl ?_
    refine x_f2 hx hb hts hown hw dX0_bringIn_11 ?_
    refine lv_iconst (v := 1) hx hb dX0_bringIn_14 (by decide) ?_
    refine lv_iadd hx hb dX0_bringIn_15 ?_
    refine x_p2 (x := ((S.2 2) + 1)) hx hb hts hown hw dX0_bringIn_16 (fun H locs hw => ?_)
    refine lv_goto (tgt := 39) hx hb dX0_bringIn_19 (by decide) ?_
    exact x_retv hx hb hr hlocks hw (by simp [xBr, g1]) dX0_bringIn_39
theorem cwx_bringIn {R : Room} {s : State} {args : Array Value} (hts : ∀ w ∈ GT, w.before args s = true) (hR : 5 + 1 ≤ R.frames ∧ 8 + (4 + 11) + 40 * 5 ≤ R.locals) : CallW R s args RX0 RX0 54 yX0_bringIn cX0_bringIn 4 none ((.code yX0_bringIn cX0_bringIn 4 none : Cond) :: GT) (rmD 5) 0 0 3 :=
  cwV 3 hts (show GoodIn GT (wsV RX0 54 RX0 yX0_bringIn ((.code yX0_bringIn cX0_bringIn 4 none : Cond) :: GT)) from lw_gin (lw_gin (lw_gin (lw_gin (lw_gin lw_self gw_123) gw_1) gw_286) gw_122) gw_121) rfl rfl rfl (by decide +kernel) hR
set_option maxRecDepth 100000 in
set_option maxHeartbeats 4000000 in
theorem cx_claim (l : Launch) (D : va_G) (o : Nat → Nat) (cA : ClassId) (S : SX) (u b : Nat) (hu : u < 4) (hbb : b < 16) : xMv l D o cA yX0_claim cX0_claim 4 3 [.ref (o 0), .int (nI u), .int (nI b)] S (xCl S u b) := by
  intro sz
  refine x_met (by decide) rfl (Nat.le_of_ble_eq_true rfl) ?_
  intro P0 e s m below meth c ls hsz hx hb hml hr hlocks hown hts hl hw
  subst hsz
  have hl : lv_has ls 4 [(0, .ref (o 0)), (1, .int (nI u)), (2, .int (nI b))] := hl
  refine lv_iload_n hx hb dX0_claim_0 rfl (lv_at hl 1 rfl) ?_
  refine lv_iload_n hx hb dX0_claim_1 rfl (lv_at hl 2 rfl) ?_
  refine x_cs (rest := []) ⟨hx, hb, hml, hown, hts⟩ (cx_lineFor l u b (by omega) (by omega)) (cwx_lineFor hts ⟨by decide, by decide⟩) hw rfl hl.1 rfl (Nat.le_of_ble_eq_true rfl) dX0_claim_2 ⟨Nat.zero_le _, Nat.zero_le _⟩ (fun H locs hw => ?_)
  refine lv_istore_n (lv' := [(3, .int (nI (2 * u + b % 2))), (0, .ref (o 0)), (1, .int (nI u)), (2, .int (nI b))]) hx hb dX0_claim_5 rfl hl (by decide) rfl (fun ls hl => ?_)
  refine lv_aload_n hx hb dX0_claim_6 rfl (lv_at hl 1 rfl) ?_
  refine x_g0 hx hb hts hown hw dX0_claim_7 ?_
  refine lv_iload_n hx hb dX0_claim_10 rfl (lv_at hl 0 rfl) ?_
  refine x_l0 (n := 2 * u + b % 2) hx hb hw (by omega) dX0_claim_11 ?_
  refine x_cs (rest := []) ⟨hx, hb, hml, hown, hts⟩ (cx_isPerhapsElsewhere l (S.1 0 (2 * u + b % 2))) (cwx_isPerhapsElsewhere hts ⟨by decide, by decide⟩) hw rfl hl.1 rfl (Nat.le_of_ble_eq_true rfl) dX0_claim_12 ⟨Nat.zero_le _, Nat.zero_le _⟩ (fun H locs hw => ?_)
  refine lv_if_eq (tgt := 31) hx hb dX0_claim_15 (by decide) (fun g1 => ?_) (fun g1 => ?_)
  · have g1 := bI_z.mp g1
    refine lv_aload_n hx hb dX0_claim_31 rfl (lv_at hl 1 rfl) ?_
    refine x_g0 hx hb hts hown hw dX0_claim_32 ?_
    refine lv_iload_n hx hb dX0_claim_35 rfl (lv_at hl 0 rfl) ?_
    refine lv_iconst (v := 4) hx hb dX0_claim_36 (by decide) ?_
    refine x_s0 (n := 2 * u + b % 2) (x := 4) hx hb hw (by omega) dX0_claim_37 (fun H locs hw => ?_)
    exact x_retv hx hb hr hlocks hw (by simp [xCl, xClT, g1]) dX0_claim_38
  · have g1 := bI_n.mp g1
    refine lv_aload_n hx hb dX0_claim_18 rfl (lv_at hl 1 rfl) ?_
    refine lv_iconst (v := 2) hx hb dX0_claim_19 (by decide) ?_
    refine lv_iload_n hx hb dX0_claim_20 rfl (lv_at hl 2 rfl) ?_
    refine lv_iload_n hx hb dX0_claim_21 rfl (lv_at hl 3 rfl) ?_
    refine x_cv (rest := []) ⟨hx, hb, hml, hown, hts⟩ (cx_transact l D o cA S 2 u b (by omega) (by omega) (by omega)) (cwx_transact hts ⟨by decide, by decide⟩) hw rfl hl.1 rfl (Nat.le_of_ble_eq_true rfl) dX0_claim_22 ⟨Nat.zero_le _, Nat.zero_le _⟩ (fun H locs hw => ?_)
    refine lv_aload_n hx hb dX0_claim_25 rfl (lv_at hl 1 rfl) ?_
    refine lv_iload_n hx hb dX0_claim_26 rfl (lv_at hl 2 rfl) ?_
    refine lv_iload_n hx hb dX0_claim_27 rfl (lv_at hl 3 rfl) ?_
    refine x_cv (rest := []) ⟨hx, hb, hml, hown, hts⟩ (cx_dropOthers l D o cA (xTr S 2 u b) u b (by omega) (by omega)) (cwx_dropOthers hts ⟨by decide, by decide⟩) hw rfl hl.1 rfl (Nat.le_of_ble_eq_true rfl) dX0_claim_28 ⟨Nat.zero_le _, Nat.zero_le _⟩ (fun H locs hw => ?_)
    refine lv_aload_n hx hb dX0_claim_31 rfl (lv_at hl 1 rfl) ?_
    refine x_g0 hx hb hts hown hw dX0_claim_32 ?_
    refine lv_iload_n hx hb dX0_claim_35 rfl (lv_at hl 0 rfl) ?_
    refine lv_iconst (v := 4) hx hb dX0_claim_36 (by decide) ?_
    refine x_s0 (n := 2 * u + b % 2) (x := 4) hx hb hw (by omega) dX0_claim_37 (fun H locs hw => ?_)
    exact x_retv hx hb hr hlocks hw (by simp [xCl, xClT, g1]) dX0_claim_38
theorem cwx_claim {R : Room} {s : State} {args : Array Value} (hts : ∀ w ∈ GT, w.before args s = true) (hR : 3 + 1 ≤ R.frames ∧ 8 + (4 + 11) + 40 * 3 ≤ R.locals) : CallW R s args RX0 RX0 72 yX0_claim cX0_claim 4 none ((.code yX0_claim cX0_claim 4 none : Cond) :: GT) (rmD 3) 0 0 2 :=
  cwV 2 hts (show GoodIn GT (wsV RX0 72 RX0 yX0_claim ((.code yX0_claim cX0_claim 4 none : Cond) :: GT)) from lw_gin (lw_gin (lw_gin (lw_gin (lw_gin lw_self gw_162) gw_1) gw_296) gw_161) gw_160) rfl rfl rfl (by decide +kernel) hR
set_option maxRecDepth 100000 in
set_option maxHeartbeats 4000000 in
theorem cx_updateOthers (l : Launch) (D : va_G) (o : Nat → Nat) (cA : ClassId) (S : SX) (u a : Nat) (w : Int32) (hu : u < 4) (ha : a < 32) : xMi l D o cA yX0_updateOthers cX0_updateOthers 6 (some .boolean) 3 [.ref (o 0), .int (nI u), .int (nI a), .int w] S ((xUpF u a w 4 0 (S, false)).1) (bI (xUpF u a w 4 0 (S, false)).2) := by
  intro sz
  refine x_met (by decide) rfl (Nat.le_of_ble_eq_true rfl) ?_
  intro P0 e s m below meth c ls hsz hx hb hml hr hlocks hown hts hl hw
  subst hsz
  have hl : lv_has ls 6 [(0, .ref (o 0)), (1, .int (nI u)), (2, .int (nI a)), (3, .int w)] := hl
  have loop : ∀ (n k : Nat), n + k = 4 → ∀ (S' : SX) (ot : Bool) (H : Heap) (locs : List Loc) (ls : Array Slot), lv_has ls 6 [(5, .int (nI k)), (4, .int (bI ot)), (0, .ref (o 0)), (1, .int (nI u)), (2, .int (nI a)), (3, .int w)] → xW D o cA (xA o s.heap.size) s s.heap S' H locs → xUpF u a w n k (S', ot) = xUpF u a w 4 0 (S, false) → W P0 l e (rmD 3) s m ([.ref (o 0), .int (nI u), .int (nI a), .int w]).toArray below meth c H locs 0 0 (MQ below (xQi D o cA s.heap.size ((xUpF u a w 4 0 (S, false)).1) (bI (xUpF u a w 4 0 (S, false)).2)) ([.ref (o 0), .int (nI u), .int (nI a), .int w]).toArray s 0 0 (xA o s.heap.size)) (F0 m 6 ls []) := by
    intro n
    induction n with
    | zero =>
      intro k hk S' ot H locs ls hl hw hf
      obtain rfl : k = 4 := by omega
      refine lv_iload hx hb dX0_updateOthers_6 (lv_at hl 0 rfl) ?_
      refine lv_iconst (v := 4) hx hb dX0_updateOthers_8 (by decide) ?_
      refine lv_icmp_ge (tgt := 67) hx hb dX0_updateOthers_9 (by decide) (fun _ => ?_) (fun h9 => absurd (by decide) h9)
      refine lv_iload hx hb dX0_updateOthers_67 (lv_at hl 1 rfl) ?_
      exact x_retz hx hb hr hlocks hw ⟨by rw [← hf]; rfl, by rw [← hf]; rfl⟩ dX0_updateOthers_69
    | succ n ih =>
      intro k hk S' ot H locs ls hl hw hf
      refine lv_iload hx hb dX0_updateOthers_6 (lv_at hl 0 rfl) ?_
      refine lv_iconst (v := 4) hx hb dX0_updateOthers_8 (by decide) ?_
      refine lv_icmp_ge (tgt := 67) hx hb dX0_updateOthers_9 (by decide) (fun h9 => absurd h9 (nI_ge (a := k) (b := 4) (by omega) (by decide))) (fun _ => ?_)
      refine lv_iload hx hb dX0_updateOthers_12 (lv_at hl 0 rfl) ?_
      refine lv_iload_n hx hb dX0_updateOthers_14 rfl (lv_at hl 3 rfl) ?_
      refine lv_icmp_eq (tgt := 61) hx hb dX0_updateOthers_15 (by decide) (fun g1 => ?_) (fun g1 => ?_)
      · have g1 : k = u := (nI_eq (a := k) (b := u) (by omega) (by omega)).mp g1
        refine lv_iinc (k := 0) (v := nI (k + 1)) (lv' := [(5, .int (nI (k + 1))), (4, .int (bI ot)), (0, .ref (o 0)), (1, .int (nI u)), (2, .int (nI a)), (3, .int w)]) hx hb dX0_updateOthers_61 hl rfl (lw_inc k 1) (by decide) rfl (fun ls hl => ?_)
        refine lv_goto (tgt := 6) hx hb dX0_updateOthers_64 (by decide) ?_
        exact ih (k + 1) (by omega) _ ot _ _ _ (lv_sub hl [0, 1, 2, 3, 4, 5] rfl) hw (by rw [← hf]; simp [xUpF, xUp1, zA_n, g1])
      · have g1 : ¬ k = u := fun h9 => g1 ((nI_eq (a := k) (b := u) (by omega) (by omega)).mpr h9)
        refine lv_aload_n hx hb dX0_updateOthers_18 rfl (lv_at hl 2 rfl) ?_
        refine lv_iload hx hb dX0_updateOthers_19 (lv_at hl 0 rfl) ?_
        refine lv_iload_n hx hb dX0_updateOthers_21 rfl (lv_at hl 4 rfl) ?_
        refine x_cs (rest := [.int (nI k), .ref (o 0)]) ⟨hx, hb, hml, hown, hts⟩ (cx_blockOf l a (by omega)) (cwx_blockOf hts ⟨by decide, by decide⟩) hw rfl hl.1 rfl (Nat.le_of_ble_eq_true rfl) dX0_updateOthers_22 ⟨Nat.zero_le _, Nat.zero_le _⟩ (fun H locs hw => ?_)
        refine x_ci (rest := []) ⟨hx, hb, hml, hown, hts⟩ (cx_holds l D o cA S' k (a / 2) (by omega) (by omega)) (cwx_holds hts ⟨by decide, by decide⟩) hw rfl hl.1 rfl (Nat.le_of_ble_eq_true rfl) dX0_updateOthers_25 ⟨Nat.zero_le _, Nat.zero_le _⟩ (fun H locs hw => ?_)
        refine lv_if_eq (tgt := 61) hx hb dX0_updateOthers_28 (by decide) (fun g2 => ?_) (fun g2 => ?_)
        · have g2 := bI_z.mp g2
          refine lv_iinc (k := 0) (v := nI (k + 1)) (lv' := [(5, .int (nI (k + 1))), (4, .int (bI ot)), (0, .ref (o 0)), (1, .int (nI u)), (2, .int (nI a)), (3, .int w)]) hx hb dX0_updateOthers_61 hl rfl (lw_inc k 1) (by decide) rfl (fun ls hl => ?_)
          refine lv_goto (tgt := 6) hx hb dX0_updateOthers_64 (by decide) ?_
          exact ih (k + 1) (by omega) _ ot _ _ _ (lv_sub hl [0, 1, 2, 3, 4, 5] rfl) hw (by rw [← hf]; simp [xUpF, xUp1, zA_n, g1, g2])
        · have g2 := bI_n.mp g2
          refine lv_iconst (v := 1) hx hb dX0_updateOthers_31 (by decide) ?_
          refine lv_istore (lv' := [(4, .int 1), (5, .int (nI k)), (0, .ref (o 0)), (1, .int (nI u)), (2, .int (nI a)), (3, .int w)]) hx hb dX0_updateOthers_32 hl (by decide) rfl (fun ls hl => ?_)
          refine lv_aload_n hx hb dX0_updateOthers_34 rfl (lv_at hl 2 rfl) ?_
          refine x_g2 hx hb hts hown hw dX0_updateOthers_35 ?_
          refine lv_iload hx hb dX0_updateOthers_38 (lv_at hl 1 rfl) ?_
          refine lv_iload_n hx hb dX0_updateOthers_40 rfl (lv_at hl 4 rfl) ?_
          refine x_cs (rest := [.ref (o 3)]) ⟨hx, hb, hml, hown, hts⟩ (cx_wordIndex l k a (by omega) (by omega)) (cwx_wordIndex hts ⟨by decide, by decide⟩) hw rfl hl.1 rfl (Nat.le_of_ble_eq_true rfl) dX0_updateOthers_41 ⟨Nat.zero_le _, Nat.zero_le _⟩ (fun H locs hw => ?_)
          refine lv_iload_n hx hb dX0_updateOthers_44 rfl (lv_at hl 5 rfl) ?_
          refine x_s2 (n := 2 * (2 * k + a / 2 % 2) + a % 2) (x := w) hx hb hw (by omega) dX0_updateOthers_45 (fun H locs hw => ?_)
          refine lv_aload_n hx hb dX0_updateOthers_46 rfl (lv_at hl 2 rfl) ?_
          refine x_g0 hx hb hts hown hw dX0_updateOthers_47 ?_
          refine lv_iload hx hb dX0_updateOthers_50 (lv_at hl 1 rfl) ?_
          refine lv_iload_n hx hb dX0_updateOthers_52 rfl (lv_at hl 4 rfl) ?_
          refine x_cs (rest := [.int (nI k), .ref (o 1)]) ⟨hx, hb, hml, hown, hts⟩ (cx_blockOf l a (by omega)) (cwx_blockOf hts ⟨by decide, by decide⟩) hw rfl hl.1 rfl (Nat.le_of_ble_eq_true rfl) dX0_updateOthers_53 ⟨Nat.zero_le _, Nat.zero_le _⟩ (fun H locs hw => ?_)
          refine x_cs (rest := [.ref (o 1)]) ⟨hx, hb, hml, hown, hts⟩ (cx_lineFor l k (a / 2) (by omega) (by omega)) (cwx_lineFor hts ⟨by decide, by decide⟩) hw rfl hl.1 rfl (Nat.le_of_ble_eq_true rfl) dX0_updateOthers_56 ⟨Nat.zero_le _, Nat.zero_le _⟩ (fun H locs hw => ?_)
          refine lv_iconst (v := 1) hx hb dX0_updateOthers_59 (by decide) ?_
          refine x_s0 (n := 2 * k + (a / 2) % 2) (x := 1) hx hb hw (by omega) dX0_updateOthers_60 (fun H locs hw => ?_)
          refine lv_iinc (k := 1) (v := nI (k + 1)) (lv' := [(5, .int (nI (k + 1))), (4, .int 1), (0, .ref (o 0)), (1, .int (nI u)), (2, .int (nI a)), (3, .int w)]) hx hb dX0_updateOthers_61 hl rfl (lw_inc k 1) (by decide) rfl (fun ls hl => ?_)
          refine lv_goto (tgt := 6) hx hb dX0_updateOthers_64 (by decide) ?_
          exact ih (k + 1) (by omega) _ true _ _ _ (lv_sub hl [0, 1, 2, 3, 4, 5] rfl) hw (by rw [← hf]; simp [xUpF, xUp1, zA_n, g1, g2])
  refine lv_iconst (v := 0) hx hb dX0_updateOthers_0 (by decide) ?_
  refine lv_istore (lv' := [(4, .int 0), (0, .ref (o 0)), (1, .int (nI u)), (2, .int (nI a)), (3, .int w)]) hx hb dX0_updateOthers_1 hl (by decide) rfl (fun ls hl => ?_)
  refine lv_iconst (v := 0) hx hb dX0_updateOthers_3 (by decide) ?_
  refine lv_istore (lv' := [(5, .int 0), (4, .int 0), (0, .ref (o 0)), (1, .int (nI u)), (2, .int (nI a)), (3, .int w)]) hx hb dX0_updateOthers_4 hl (by decide) rfl (fun ls hl => ?_)
  exact loop 4 0 rfl _ false _ _ _ (lv_sub hl [0, 1, 2, 3, 4, 5] rfl) hw rfl
theorem cwx_updateOthers {R : Room} {s : State} {args : Array Value} (hts : ∀ w ∈ GT, w.before args s = true) (hR : 3 + 1 ≤ R.frames ∧ 8 + (6 + 11) + 40 * 3 ≤ R.locals) : CallW R s args RX0 RX0 144 yX0_updateOthers cX0_updateOthers 6 (some .boolean) ((.code yX0_updateOthers cX0_updateOthers 6 (some .boolean) : Cond) :: GT) (rmD 3) 0 0 3 :=
  cwV 3 hts (show GoodIn GT (wsV RX0 144 RX0 yX0_updateOthers ((.code yX0_updateOthers cX0_updateOthers 6 (some .boolean) : Cond) :: GT)) from lw_gin (lw_gin (lw_gin (lw_gin (lw_gin lw_self gw_159) gw_1) gw_295) gw_158) gw_157) rfl rfl rfl (by decide +kernel) hR
set_option maxRecDepth 100000 in
set_option maxHeartbeats 4000000 in
theorem cx_tellOthers (l : Launch) (D : va_G) (o : Nat → Nat) (cA : ClassId) (S : SX) (u a : Nat) (w : Int32) (hu : u < 4) (ha : a < 32) : xMv l D o cA yX0_tellOthers cX0_tellOthers 7 4 [.ref (o 0), .int (nI u), .int (nI a), .int w] S (xTe S u a w) := by
  intro sz
  refine x_met (by decide) rfl (Nat.le_of_ble_eq_true rfl) ?_
  intro P0 e s m below meth c ls hsz hx hb hml hr hlocks hown hts hl hw
  subst hsz
  have hl : lv_has ls 7 [(0, .ref (o 0)), (1, .int (nI u)), (2, .int (nI a)), (3, .int w)] := hl
  refine lv_iload_n hx hb dX0_tellOthers_0 rfl (lv_at hl 2 rfl) ?_
  refine x_cs (rest := []) ⟨hx, hb, hml, hown, hts⟩ (cx_blockOf l a (by omega)) (cwx_blockOf hts ⟨by decide, by decide⟩) hw rfl hl.1 rfl (Nat.le_of_ble_eq_true rfl) dX0_tellOthers_1 ⟨Nat.zero_le _, Nat.zero_le _⟩ (fun H locs hw => ?_)
  refine lv_istore (lv' := [(4, .int (nI (a / 2))), (0, .ref (o 0)), (1, .int (nI u)), (2, .int (nI a)), (3, .int w)]) hx hb dX0_tellOthers_4 hl (by decide) rfl (fun ls hl => ?_)
  refine lv_iload_n hx hb dX0_tellOthers_6 rfl (lv_at hl 2 rfl) ?_
  refine lv_iload hx hb dX0_tellOthers_7 (lv_at hl 0 rfl) ?_
  refine x_cs (rest := []) ⟨hx, hb, hml, hown, hts⟩ (cx_lineFor l u (a / 2) (by omega) (by omega)) (cwx_lineFor hts ⟨by decide, by decide⟩) hw rfl hl.1 rfl (Nat.le_of_ble_eq_true rfl) dX0_tellOthers_9 ⟨Nat.zero_le _, Nat.zero_le _⟩ (fun H locs hw => ?_)
  refine lv_istore (lv' := [(5, .int (nI (2 * u + (a / 2) % 2))), (4, .int (nI (a / 2))), (0, .ref (o 0)), (1, .int (nI u)), (2, .int (nI a)), (3, .int w)]) hx hb dX0_tellOthers_12 hl (by decide) rfl (fun ls hl => ?_)
  refine lv_iconst (v := 0) hx hb dX0_tellOthers_14 (by decide) ?_
  refine lv_istore (lv' := [(6, .int 0), (5, .int (nI (2 * u + (a / 2) % 2))), (4, .int (nI (a / 2))), (0, .ref (o 0)), (1, .int (nI u)), (2, .int (nI a)), (3, .int w)]) hx hb dX0_tellOthers_15 hl (by decide) rfl (fun ls hl => ?_)
  refine lv_aload_n hx hb dX0_tellOthers_17 rfl (lv_at hl 3 rfl) ?_
  refine x_g0 hx hb hts hown hw dX0_tellOthers_18 ?_
  refine lv_iload hx hb dX0_tellOthers_21 (lv_at hl 1 rfl) ?_
  refine x_l0 (n := 2 * u + (a / 2) % 2) hx hb hw (by omega) dX0_tellOthers_23 ?_
  refine x_cs (rest := []) ⟨hx, hb, hml, hown, hts⟩ (cx_isPerhapsElsewhere l (S.1 0 (2 * u + (a / 2) % 2))) (cwx_isPerhapsElsewhere hts ⟨by decide, by decide⟩) hw rfl hl.1 rfl (Nat.le_of_ble_eq_true rfl) dX0_tellOthers_24 ⟨Nat.zero_le _, Nat.zero_le _⟩ (fun H locs hw => ?_)
  refine lv_if_eq (tgt := 47) hx hb dX0_tellOthers_27 (by decide) (fun g1 => ?_) (fun g1 => ?_)
  · have g1 := bI_z.mp g1
    refine lv_aload_n hx hb dX0_tellOthers_47 rfl (lv_at hl 3 rfl) ?_
    refine x_g0 hx hb hts hown hw dX0_tellOthers_48 ?_
    refine lv_iload hx hb dX0_tellOthers_51 (lv_at hl 1 rfl) ?_
    refine lv_iload hx hb dX0_tellOthers_53 (lv_at hl 0 rfl) ?_
    refine lv_if_eq (tgt := 62) hx hb dX0_tellOthers_55 (by decide) (fun _ => ?_) (fun h9 => absurd (by decide) h9)
    refine lv_iconst (v := 4) hx hb dX0_tellOthers_62 (by decide) ?_
    refine x_s0 (n := 2 * u + (a / 2) % 2) (x := 4) hx hb hw (by omega) dX0_tellOthers_63 (fun H locs hw => ?_)
    exact x_retv hx hb hr hlocks hw (by simp [xTe, xTeR, g1]) dX0_tellOthers_64
  · have g1 := bI_n.mp g1
    refine lv_aload_n hx hb dX0_tellOthers_30 rfl (lv_at hl 3 rfl) ?_
    refine lv_iconst (v := 3) hx hb dX0_tellOthers_31 (by decide) ?_
    refine lv_iload_n hx hb dX0_tellOthers_32 rfl (lv_at hl 4 rfl) ?_
    refine lv_iload hx hb dX0_tellOthers_33 (lv_at hl 2 rfl) ?_
    refine x_cv (rest := []) ⟨hx, hb, hml, hown, hts⟩ (cx_transact l D o cA S 3 u (a / 2) (by omega) (by omega) (by omega)) (cwx_transact hts ⟨by decide, by decide⟩) hw rfl hl.1 rfl (Nat.le_of_ble_eq_true rfl) dX0_tellOthers_35 ⟨Nat.zero_le _, Nat.zero_le _⟩ (fun H locs hw => ?_)
    refine lv_aload_n hx hb dX0_tellOthers_38 rfl (lv_at hl 3 rfl) ?_
    refine lv_iload_n hx hb dX0_tellOthers_39 rfl (lv_at hl 4 rfl) ?_
    refine lv_iload_n hx hb dX0_tellOthers_40 rfl (lv_at hl 5 rfl) ?_
    refine lv_iload_n hx hb dX0_tellOthers_41 rfl (lv_at hl 6 rfl) ?_
    refine x_ci (rest := []) ⟨hx, hb, hml, hown, hts⟩ (cx_updateOthers l D o cA (xTr S 3 u (a / 2)) u a w (by omega) (by omega)) (cwx_updateOthers hts ⟨by decide, by decide⟩) hw rfl hl.1 rfl (Nat.le_of_ble_eq_true rfl) dX0_tellOthers_42 ⟨Nat.zero_le _, Nat.zero_le _⟩ (fun H locs hw => ?_)
    refine lv_istore (lv' := [(6, .int (bI ((xUpF u a w 4 0 (xTr S 3 u (a / 2), false)).2))), (5, .int (nI (2 * u + (a / 2) % 2))), (4, .int (nI (a / 2))), (0, .ref (o 0)), (1, .int (nI u)), (2, .int (nI a)), (3, .int w)]) hx hb dX0_tellOthers_45 hl (by decide) rfl (fun ls hl => ?_)
    refine lv_aload_n hx hb dX0_tellOthers_47 rfl (lv_at hl 3 rfl) ?_
    refine x_g0 hx hb hts hown hw dX0_tellOthers_48 ?_
    refine lv_iload hx hb dX0_tellOthers_51 (lv_at hl 1 rfl) ?_
    refine lv_iload hx hb dX0_tellOthers_53 (lv_at hl 0 rfl) ?_
    refine lv_if_eq (tgt := 62) hx hb dX0_tellOthers_55 (by decide) (fun g2 => ?_) (fun g2 => ?_)
    · have g2 := bI_z.mp g2
      refine lv_iconst (v := 4) hx hb dX0_tellOthers_62 (by decide) ?_
      refine x_s0 (n := 2 * u + (a / 2) % 2) (x := 4) hx hb hw (by omega) dX0_tellOthers_63 (fun H locs hw => ?_)
      exact x_retv hx hb hr hlocks hw (by simp [xTe, xTeR, g1, g2]) dX0_tellOthers_64
    · have g2 := bI_n.mp g2
      refine lv_iconst (v := 3) hx hb dX0_tellOthers_58 (by decide) ?_
      refine lv_goto (tgt := 63) hx hb dX0_tellOthers_59 (by decide) ?_
      refine x_s0 (n := 2 * u + (a / 2) % 2) (x := 3) hx hb hw (by omega) dX0_tellOthers_63 (fun H locs hw => ?_)
      exact x_retv hx hb hr hlocks hw (by simp [xTe, xTeR, g1, g2]) dX0_tellOthers_64
theorem cwx_tellOthers {R : Room} {s : State} {args : Array Value} (hts : ∀ w ∈ GT, w.before args s = true) (hR : 4 + 1 ≤ R.frames ∧ 8 + (7 + 11) + 40 * 4 ≤ R.locals) : CallW R s args RX0 RX0 69 yX0_tellOthers cX0_tellOthers 7 none ((.code yX0_tellOthers cX0_tellOthers 7 none : Cond) :: GT) (rmD 4) 0 0 3 :=
  cwV 3 hts (show GoodIn GT (wsV RX0 69 RX0 yX0_tellOthers ((.code yX0_tellOthers cX0_tellOthers 7 none : Cond) :: GT)) from lw_gin (lw_gin (lw_gin (lw_gin (lw_gin lw_self gw_153) gw_1) gw_294) gw_152) gw_151) rfl rfl rfl (by decide +kernel) hR
set_option maxRecDepth 100000 in
set_option maxHeartbeats 4000000 in
theorem cx_flush (l : Launch) (D : va_G) (o : Nat → Nat) (cA : ClassId) (S : SX)  (hok : okB S) : xMi l D o cA yX0_flush cX0_flush 3 (some .int) 3 [.ref (o 0)] S ((xFlF 8 0 (S, 0)).1) (nI (xFlF 8 0 (S, 0)).2) := by
  intro sz
  refine x_met (by decide) rfl (Nat.le_of_ble_eq_true rfl) ?_
  intro P0 e s m below meth c ls hsz hx hb hml hr hlocks hown hts hl hw
  subst hsz
  have hl : lv_has ls 3 [(0, .ref (o 0))] := hl
  have loop : ∀ (n k : Nat), n + k = 8 → ∀ (S' : SX) (t : Nat) (H : Heap) (locs : List Loc) (ls : Array Slot), lv_has ls 3 [(2, .int (nI k)), (1, .int (nI t)), (0, .ref (o 0))] → xW D o cA (xA o s.heap.size) s s.heap S' H locs → t ≤ k → okB S' → xFlF n k (S', t) = xFlF 8 0 (S, 0) → W P0 l e (rmD 3) s m ([.ref (o 0)]).toArray below meth c H locs 0 0 (MQ below (xQi D o cA s.heap.size ((xFlF 8 0 (S, 0)).1) (nI (xFlF 8 0 (S, 0)).2)) ([.ref (o 0)]).toArray s 0 0 (xA o s.heap.size)) (F0 m 4 ls []) := by
    intro n
    induction n with
    | zero =>
      intro k hk S' t H locs ls hl hw ht hok hf
      obtain rfl : k = 8 := by omega
      refine lv_iload_n hx hb dX0_flush_4 rfl (lv_at hl 0 rfl) ?_
      refine lv_bipush (v := 8) hx hb dX0_flush_5 (by decide) ?_
      refine lv_icmp_ge (tgt := 27) hx hb dX0_flush_7 (by decide) (fun _ => ?_) (fun h9 => absurd (by decide) h9)
      refine lv_iload_n hx hb dX0_flush_27 rfl (lv_at hl 1 rfl) ?_
      exact x_reti hx hb hr hlocks hw ⟨by rw [← hf]; rfl, by rw [← hf]; rfl⟩ dX0_flush_28
    | succ n ih =>
      intro k hk S' t H locs ls hl hw ht hok hf
      refine lv_iload_n hx hb dX0_flush_4 rfl (lv_at hl 0 rfl) ?_
      refine lv_bipush (v := 8) hx hb dX0_flush_5 (by decide) ?_
      refine lv_icmp_ge (tgt := 27) hx hb dX0_flush_7 (by decide) (fun h9 => absurd h9 (nI_ge (a := k) (b := 8) (by omega) (by decide))) (fun _ => ?_)
      obtain ⟨c9, hc9, hB9⟩ := hok k (by omega)
      refine lv_aload_n hx hb dX0_flush_10 rfl (lv_at hl 2 rfl) ?_
      refine lv_iload_n hx hb dX0_flush_11 rfl (lv_at hl 0 rfl) ?_
      refine x_ci (rest := []) ⟨hx, hb, hml, hown, hts⟩ (cx_emptyLine l D o cA S' k c9 (by omega) hc9 hB9) (cwx_emptyLine hts ⟨by decide, by decide⟩) hw rfl hl.1 rfl (Nat.le_of_ble_eq_true rfl) dX0_flush_12 ⟨Nat.zero_le _, Nat.zero_le _⟩ (fun H locs hw => ?_)
      refine lv_if_eq (tgt := 21) hx hb dX0_flush_15 (by decide) (fun g1 => ?_) (fun g1 => ?_)
      · have g1 := bI_z.mp g1
        refine lv_iinc (k := 0) (v := nI (k + 1)) (lv' := [(2, .int (nI (k + 1))), (1, .int (nI t)), (0, .ref (o 0))]) hx hb dX0_flush_21 hl rfl (lw_inc k 1) (by decide) rfl (fun ls hl => ?_)
        refine lv_goto (tgt := 4) hx hb dX0_flush_24 (by decide) ?_
        exact ih (k + 1) (by omega) _ _ _ _ _ (lv_sub hl [0, 1, 2] rfl) hw (by omega) (fun i hi => by rw [xEm_1]; exact hok i hi) (by rw [← hf]; simp [xFlF, g1])
      · have g1 := bI_n.mp g1
        refine lv_iinc (k := 1) (v := nI (t + 1)) (lv' := [(1, .int (nI (t + 1))), (2, .int (nI k)), (0, .ref (o 0))]) hx hb dX0_flush_18 hl rfl (lw_inc t 1) (by decide) rfl (fun ls hl => ?_)
        refine lv_iinc (k := 1) (v := nI (k + 1)) (lv' := [(2, .int (nI (k + 1))), (1, .int (nI (t + 1))), (0, .ref (o 0))]) hx hb dX0_flush_21 hl rfl (lw_inc k 1) (by decide) rfl (fun ls hl => ?_)
        refine lv_goto (tgt := 4) hx hb dX0_flush_24 (by decide) ?_
        exact ih (k + 1) (by omega) _ _ _ _ _ (lv_sub hl [0, 1, 2] rfl) hw (by omega) (fun i hi => by rw [xEm_1]; exact hok i hi) (by rw [← hf]; simp [xFlF, g1])
  refine lv_iconst (v := 0) hx hb dX0_flush_0 (by decide) ?_
  refine lv_istore_n (lv' := [(1, .int 0), (0, .ref (o 0))]) hx hb dX0_flush_1 rfl hl (by decide) rfl (fun ls hl => ?_)
  refine lv_iconst (v := 0) hx hb dX0_flush_2 (by decide) ?_
  refine lv_istore_n (lv' := [(2, .int 0), (1, .int 0), (0, .ref (o 0))]) hx hb dX0_flush_3 rfl hl (by decide) rfl (fun ls hl => ?_)
  exact loop 8 0 rfl _ 0 _ _ _ (lv_sub hl [0, 1, 2] rfl) hw (by omega) hok rfl
set_option maxRecDepth 100000 in
set_option maxHeartbeats 4000000 in
theorem cx_state (l : Launch) (D : va_G) (o : Nat → Nat) (cA : ClassId) (S : SX) (x y : Int32)  : xMi l D o cA yX0_state cX0_state 3 (some .int) 2 [.ref (o 0), .int x, .int y] S (S) (xStV S x y) := by
  intro sz
  refine x_met (by decide) rfl (Nat.le_of_ble_eq_true rfl) ?_
  intro P0 e s m below meth c ls hsz hx hb hml hr hlocks hown hts hl hw
  subst hsz
  have hl : lv_has ls 3 [(0, .ref (o 0)), (1, .int x), (2, .int y)] := hl
  refine lv_iload_n hx hb dX0_state_0 rfl (lv_at hl 1 rfl) ?_
  refine x_cs (rest := []) ⟨hx, hb, hml, hown, hts⟩ (cx_isProcessor l x) (cwx_isProcessor hts ⟨by decide, by decide⟩) hw rfl hl.1 rfl (Nat.le_of_ble_eq_true rfl) dX0_state_1 ⟨Nat.zero_le _, Nat.zero_le _⟩ (fun H locs hw => ?_)
  refine lv_if_eq (tgt := 14) hx hb dX0_state_4 (by decide) (fun g1 => ?_) (fun g1 => ?_)
  · have g1 := bI_z.mp g1
    refine lv_iconst (v := -1) hx hb dX0_state_14 (by decide) ?_
    exact x_reti hx hb hr hlocks hw ⟨by simp [xStV, g1], rfl⟩ dX0_state_15
  · have g1 := bI_n.mp g1
    refine lv_iload_n hx hb dX0_state_7 rfl (lv_at hl 2 rfl) ?_
    refine x_cs (rest := []) ⟨hx, hb, hml, hown, hts⟩ (cx_isBlock l y) (cwx_isBlock hts ⟨by decide, by decide⟩) hw rfl hl.1 rfl (Nat.le_of_ble_eq_true rfl) dX0_state_8 ⟨Nat.zero_le _, Nat.zero_le _⟩ (fun H locs hw => ?_)
    refine lv_if_ne (tgt := 16) hx hb dX0_state_11 (by decide) (fun g2 => ?_) (fun g2 => ?_)
    · have g2 := bI_n.mp g2
      obtain ⟨u, hu, rfl⟩ := inR_of (n := 4) (by decide) g1
      obtain ⟨v, hv, rfl⟩ := inR_of (n := 16) (by decide) g2
      refine lv_aload_n hx hb dX0_state_16 rfl (lv_at hl 0 rfl) ?_
      refine lv_iload_n hx hb dX0_state_17 rfl (lv_at hl 1 rfl) ?_
      refine lv_iload_n hx hb dX0_state_18 rfl (lv_at hl 2 rfl) ?_
      refine x_ci (rest := []) ⟨hx, hb, hml, hown, hts⟩ (cx_holds l D o cA S u v (by omega) (by omega)) (cwx_holds hts ⟨by decide, by decide⟩) hw rfl hl.1 rfl (Nat.le_of_ble_eq_true rfl) dX0_state_19 ⟨Nat.zero_le _, Nat.zero_le _⟩ (fun H locs hw => ?_)
      refine lv_if_eq (tgt := 38) hx hb dX0_state_22 (by decide) (fun g3 => ?_) (fun g3 => ?_)
      · have g3 := bI_z.mp g3
        refine lv_iconst (v := 0) hx hb dX0_state_38 (by decide) ?_
        exact x_reti hx hb hr hlocks hw ⟨by simp [xStV, nI_clamp (show u < 2 ^ 31 by omega), nI_clamp (show v < 2 ^ 31 by omega), g1, g2, g3], rfl⟩ dX0_state_39
      · have g3 := bI_n.mp g3
        refine lv_aload_n hx hb dX0_state_25 rfl (lv_at hl 0 rfl) ?_
        refine x_g0 hx hb hts hown hw dX0_state_26 ?_
        refine lv_iload_n hx hb dX0_state_29 rfl (lv_at hl 1 rfl) ?_
        refine lv_iload_n hx hb dX0_state_30 rfl (lv_at hl 2 rfl) ?_
        refine x_cs (rest := [.ref (o 1)]) ⟨hx, hb, hml, hown, hts⟩ (cx_lineFor l u v (by omega) (by omega)) (cwx_lineFor hts ⟨by decide, by decide⟩) hw rfl hl.1 rfl (Nat.le_of_ble_eq_true rfl) dX0_state_31 ⟨Nat.zero_le _, Nat.zero_le _⟩ (fun H locs hw => ?_)
        refine x_l0 (n := 2 * u + v % 2) hx hb hw (by omega) dX0_state_34 ?_
        refine lv_goto (tgt := 39) hx hb dX0_state_35 (by decide) ?_
        exact x_reti hx hb hr hlocks hw ⟨by simp [xStV, nI_clamp (show u < 2 ^ 31 by omega), nI_clamp (show v < 2 ^ 31 by omega), g1, g2, g3], rfl⟩ dX0_state_39
    · have g2 := bI_z.mp g2
      refine lv_iconst (v := -1) hx hb dX0_state_14 (by decide) ?_
      exact x_reti hx hb hr hlocks hw ⟨by simp [xStV, g1, g2], rfl⟩ dX0_state_15
set_option maxRecDepth 100000 in
set_option maxHeartbeats 4000000 in
theorem cx_cached (l : Launch) (D : va_G) (o : Nat → Nat) (cA : ClassId) (S : SX) (x y : Int32)  : xMi l D o cA yX0_cached cX0_cached 3 (some .int) 2 [.ref (o 0), .int x, .int y] S (S) (xCaV S x y) := by
  intro sz
  refine x_met (by decide) rfl (Nat.le_of_ble_eq_true rfl) ?_
  intro P0 e s m below meth c ls hsz hx hb hml hr hlocks hown hts hl hw
  subst hsz
  have hl : lv_has ls 3 [(0, .ref (o 0)), (1, .int x), (2, .int y)] := hl
  refine lv_iload_n hx hb dX0_cached_0 rfl (lv_at hl 1 rfl) ?_
  refine x_cs (rest := []) ⟨hx, hb, hml, hown, hts⟩ (cx_isProcessor l x) (cwx_isProcessor hts ⟨by decide, by decide⟩) hw rfl hl.1 rfl (Nat.le_of_ble_eq_true rfl) dX0_cached_1 ⟨Nat.zero_le _, Nat.zero_le _⟩ (fun H locs hw => ?_)
  refine lv_if_eq (tgt := 26) hx hb dX0_cached_4 (by decide) (fun g1 => ?_) (fun g1 => ?_)
  · have g1 := bI_z.mp g1
    refine lv_iconst (v := 0) hx hb dX0_cached_26 (by decide) ?_
    exact x_reti hx hb hr hlocks hw ⟨by simp [xCaV, g1], rfl⟩ dX0_cached_27
  · have g1 := bI_n.mp g1
    refine lv_iload_n hx hb dX0_cached_7 rfl (lv_at hl 2 rfl) ?_
    refine x_cs (rest := []) ⟨hx, hb, hml, hown, hts⟩ (cx_isAddress l y) (cwx_isAddress hts ⟨by decide, by decide⟩) hw rfl hl.1 rfl (Nat.le_of_ble_eq_true rfl) dX0_cached_8 ⟨Nat.zero_le _, Nat.zero_le _⟩ (fun H locs hw => ?_)
    refine lv_if_eq (tgt := 26) hx hb dX0_cached_11 (by decide) (fun g2 => ?_) (fun g2 => ?_)
    · have g2 := bI_z.mp g2
      refine lv_iconst (v := 0) hx hb dX0_cached_26 (by decide) ?_
      exact x_reti hx hb hr hlocks hw ⟨by simp [xCaV, g1, g2], rfl⟩ dX0_cached_27
    · have g2 := bI_n.mp g2
      obtain ⟨u, hu, rfl⟩ := inR_of (n := 4) (by decide) g1
      obtain ⟨v, hv, rfl⟩ := inR_of (n := 32) (by decide) g2
      refine lv_aload_n hx hb dX0_cached_14 rfl (lv_at hl 0 rfl) ?_
      refine lv_iload_n hx hb dX0_cached_15 rfl (lv_at hl 1 rfl) ?_
      refine lv_iload_n hx hb dX0_cached_16 rfl (lv_at hl 2 rfl) ?_
      refine x_cs (rest := [.int (nI u), .ref (o 0)]) ⟨hx, hb, hml, hown, hts⟩ (cx_blockOf l v (by omega)) (cwx_blockOf hts ⟨by decide, by decide⟩) hw rfl hl.1 rfl (Nat.le_of_ble_eq_true rfl) dX0_cached_17 ⟨Nat.zero_le _, Nat.zero_le _⟩ (fun H locs hw => ?_)
      refine x_ci (rest := []) ⟨hx, hb, hml, hown, hts⟩ (cx_holds l D o cA S u (v / 2) (by omega) (by omega)) (cwx_holds hts ⟨by decide, by decide⟩) hw rfl hl.1 rfl (Nat.le_of_ble_eq_true rfl) dX0_cached_20 ⟨Nat.zero_le _, Nat.zero_le _⟩ (fun H locs hw => ?_)
      refine lv_if_ne (tgt := 28) hx hb dX0_cached_23 (by decide) (fun g3 => ?_) (fun g3 => ?_)
      · have g3 := bI_n.mp g3
        refine lv_aload_n hx hb dX0_cached_28 rfl (lv_at hl 0 rfl) ?_
        refine x_g2 hx hb hts hown hw dX0_cached_29 ?_
        refine lv_iload_n hx hb dX0_cached_32 rfl (lv_at hl 1 rfl) ?_
        refine lv_iload_n hx hb dX0_cached_33 rfl (lv_at hl 2 rfl) ?_
        refine x_cs (rest := [.ref (o 3)]) ⟨hx, hb, hml, hown, hts⟩ (cx_wordIndex l u v (by omega) (by omega)) (cwx_wordIndex hts ⟨by decide, by decide⟩) hw rfl hl.1 rfl (Nat.le_of_ble_eq_true rfl) dX0_cached_34 ⟨Nat.zero_le _, Nat.zero_le _⟩ (fun H locs hw => ?_)
        refine x_l2 (n := 2 * (2 * u + v / 2 % 2) + v % 2) hx hb hw (by omega) dX0_cached_37 ?_
        exact x_reti hx hb hr hlocks hw ⟨by simp [xCaV, nI_clamp (show u < 2 ^ 31 by omega), nI_clamp (show v < 2 ^ 31 by omega), g1, g2, g3], rfl⟩ dX0_cached_38
      · have g3 := bI_z.mp g3
        refine lv_iconst (v := 0) hx hb dX0_cached_26 (by decide) ?_
        exact x_reti hx hb hr hlocks hw ⟨by simp [xCaV, nI_clamp (show u < 2 ^ 31 by omega), nI_clamp (show v < 2 ^ 31 by omega), g1, g2, g3], rfl⟩ dX0_cached_27
set_option maxRecDepth 100000 in
set_option maxHeartbeats 4000000 in
theorem cx_memory (l : Launch) (D : va_G) (o : Nat → Nat) (cA : ClassId) (S : SX) (x : Int32)  : xMi l D o cA yX0_memory cX0_memory 2 (some .int) 1 [.ref (o 0), .int x] S (S) (xMeV S x) := by
  intro sz
  refine x_met (by decide) rfl (Nat.le_of_ble_eq_true rfl) ?_
  intro P0 e s m below meth c ls hsz hx hb hml hr hlocks hown hts hl hw
  subst hsz
  have hl : lv_has ls 2 [(0, .ref (o 0)), (1, .int x)] := hl
  refine lv_iload_n hx hb dX0_memory_0 rfl (lv_at hl 1 rfl) ?_
  refine x_cs (rest := []) ⟨hx, hb, hml, hown, hts⟩ (cx_isAddress l x) (cwx_isAddress hts ⟨by decide, by decide⟩) hw rfl hl.1 rfl (Nat.le_of_ble_eq_true rfl) dX0_memory_1 ⟨Nat.zero_le _, Nat.zero_le _⟩ (fun H locs hw => ?_)
  refine lv_if_eq (tgt := 16) hx hb dX0_memory_4 (by decide) (fun g1 => ?_) (fun g1 => ?_)
  · have g1 := bI_z.mp g1
    refine lv_iconst (v := 0) hx hb dX0_memory_16 (by decide) ?_
    exact x_reti hx hb hr hlocks hw ⟨by simp [xMeV, g1], rfl⟩ dX0_memory_17
  · have g1 := bI_n.mp g1
    obtain ⟨u, hu, rfl⟩ := inR_of (n := 32) (by decide) g1
    refine lv_aload_n hx hb dX0_memory_7 rfl (lv_at hl 0 rfl) ?_
    refine x_g3 hx hb hts hown hw dX0_memory_8 ?_
    refine lv_iload_n hx hb dX0_memory_11 rfl (lv_at hl 1 rfl) ?_
    refine x_l3 (n := u) hx hb hw (by omega) dX0_memory_12 ?_
    refine lv_goto (tgt := 17) hx hb dX0_memory_13 (by decide) ?_
    exact x_reti hx hb hr hlocks hw ⟨by simp [xMeV, nI_clamp (show u < 2 ^ 31 by omega), g1], rfl⟩ dX0_memory_17
set_option maxRecDepth 100000 in
set_option maxHeartbeats 4000000 in
theorem cx_count (l : Launch) (D : va_G) (o : Nat → Nat) (cA : ClassId) (S : SX) (x : Int32)  : xMi l D o cA yX0_count cX0_count 2 (some .int) 1 [.ref (o 0), .int x] S (S) (xCoV S x) := by
  intro sz
  refine x_met (by decide) rfl (Nat.le_of_ble_eq_true rfl) ?_
  intro P0 e s m below meth c ls hsz hx hb hml hr hlocks hown hts hl hw
  subst hsz
  have hl : lv_has ls 2 [(0, .ref (o 0)), (1, .int x)] := hl
  refine lv_iload_n hx hb dX0_count_0 rfl (lv_at hl 1 rfl) ?_
  refine lv_if_lt (tgt := 18) hx hb dX0_count_1 (by decide) (fun g1 => ?_) (fun g1 => ?_)
  · refine lv_iconst (v := -1) hx hb dX0_count_18 (by decide) ?_
    exact x_reti hx hb hr hlocks hw ⟨by simp [xCoV, inR, g1], rfl⟩ dX0_count_19
  · refine lv_iload_n hx hb dX0_count_4 rfl (lv_at hl 1 rfl) ?_
    refine lv_iconst (v := 5) hx hb dX0_count_5 (by decide) ?_
    refine lv_icmp_ge (tgt := 18) hx hb dX0_count_6 (by decide) (fun g2 => ?_) (fun g2 => ?_)
    · refine lv_iconst (v := -1) hx hb dX0_count_18 (by decide) ?_
      exact x_reti hx hb hr hlocks hw ⟨by simp [xCoV, inR, g1, g2], rfl⟩ dX0_count_19
    · obtain ⟨u, hu, rfl⟩ := inR_of2 (n := 5) (by decide) g1 g2
      refine lv_aload_n hx hb dX0_count_9 rfl (lv_at hl 0 rfl) ?_
      refine x_g4 hx hb hts hown hw dX0_count_10 ?_
      refine lv_iload_n hx hb dX0_count_13 rfl (lv_at hl 1 rfl) ?_
      refine x_l4 (n := u) hx hb hw (by omega) dX0_count_14 ?_
      refine lv_goto (tgt := 19) hx hb dX0_count_15 (by decide) ?_
      exact x_reti hx hb hr hlocks hw ⟨by simp [xCoV, nI_clamp (show u < 2 ^ 31 by omega), inR, g1, g2], rfl⟩ dX0_count_19
set_option maxRecDepth 100000 in
set_option maxHeartbeats 4000000 in
theorem cx_latest (l : Launch) (D : va_G) (o : Nat → Nat) (cA : ClassId) (S : SX) (x : Int32)  : xMi l D o cA yX0_latest cX0_latest 2 (some .int) 1 [.ref (o 0), .int x] S (S) (xLaV S x) := by
  intro sz
  refine x_met (by decide) rfl (Nat.le_of_ble_eq_true rfl) ?_
  intro P0 e s m below meth c ls hsz hx hb hml hr hlocks hown hts hl hw
  subst hsz
  have hl : lv_has ls 2 [(0, .ref (o 0)), (1, .int x)] := hl
  refine lv_iload_n hx hb dX0_latest_0 rfl (lv_at hl 1 rfl) ?_
  refine lv_if_lt (tgt := 19) hx hb dX0_latest_1 (by decide) (fun g1 => ?_) (fun g1 => ?_)
  · refine lv_iconst (v := -1) hx hb dX0_latest_19 (by decide) ?_
    exact x_reti hx hb hr hlocks hw ⟨by simp [xLaV, inR, g1], rfl⟩ dX0_latest_20
  · refine lv_iload_n hx hb dX0_latest_4 rfl (lv_at hl 1 rfl) ?_
    refine lv_bipush (v := 8) hx hb dX0_latest_5 (by decide) ?_
    refine lv_icmp_ge (tgt := 19) hx hb dX0_latest_7 (by decide) (fun g2 => ?_) (fun g2 => ?_)
    · refine lv_iconst (v := -1) hx hb dX0_latest_19 (by decide) ?_
      exact x_reti hx hb hr hlocks hw ⟨by simp [xLaV, inR, g1, g2], rfl⟩ dX0_latest_20
    · obtain ⟨u, hu, rfl⟩ := inR_of2 (n := 8) (by decide) g1 g2
      refine lv_aload_n hx hb dX0_latest_10 rfl (lv_at hl 0 rfl) ?_
      refine x_g5 hx hb hts hown hw dX0_latest_11 ?_
      refine lv_iload_n hx hb dX0_latest_14 rfl (lv_at hl 1 rfl) ?_
      refine x_l5 (n := u) hx hb hw (by omega) dX0_latest_15 ?_
      refine lv_goto (tgt := 20) hx hb dX0_latest_16 (by decide) ?_
      exact x_reti hx hb hr hlocks hw ⟨by simp [xLaV, nI_clamp (show u < 2 ^ 31 by omega), inR, g1, g2], rfl⟩ dX0_latest_20
set_option maxRecDepth 100000 in
set_option maxHeartbeats 4000000 in
theorem cx_read (l : Launch) (D : va_G) (o : Nat → Nat) (cA : ClassId) (S : SX) (u a : Nat) (hu : u < 4) (ha : a < 32) (hok : okB S) : xMi l D o cA yX0_read cX0_read 3 (some .int) 6 [.ref (o 0), .int (nI u), .int (nI a)] S (xBr S u (a / 2) 0) ((xBr S u (a / 2) 0).1 2 (2 * (2 * u + a / 2 % 2) + a % 2)) := by
  intro sz
  refine x_met (by decide) rfl (Nat.le_of_ble_eq_true rfl) ?_
  intro P0 e s m below meth c ls hsz hx hb hml hr hlocks hown hts hl hw
  subst hsz
  have hl : lv_has ls 3 [(0, .ref (o 0)), (1, .int (nI u)), (2, .int (nI a))] := hl
  refine lv_iload_n hx hb dX0_read_0 rfl (lv_at hl 1 rfl) ?_
  refine x_cs (rest := []) ⟨hx, hb, hml, hown, hts⟩ (cx_isProcessor l (nI u)) (cwx_isProcessor hts ⟨by decide, by decide⟩) hw rfl hl.1 rfl (Nat.le_of_ble_eq_true rfl) dX0_read_1 ⟨Nat.zero_le _, Nat.zero_le _⟩ (fun H locs hw => ?_)
  refine lv_if_eq (tgt := 14) hx hb dX0_read_4 (by decide) (fun h9 => absurd h9 (bI_n.mpr (inR_t (n := 4) hu (by decide)))) (fun _ => ?_)
  refine lv_iload_n hx hb dX0_read_7 rfl (lv_at hl 2 rfl) ?_
  refine x_cs (rest := []) ⟨hx, hb, hml, hown, hts⟩ (cx_isAddress l (nI a)) (cwx_isAddress hts ⟨by decide, by decide⟩) hw rfl hl.1 rfl (Nat.le_of_ble_eq_true rfl) dX0_read_8 ⟨Nat.zero_le _, Nat.zero_le _⟩ (fun H locs hw => ?_)
  refine lv_if_ne (tgt := 24) hx hb dX0_read_11 (by decide) (fun _ => ?_) (fun h9 => absurd h9 (bI_n.mpr (inR_t (n := 32) ha (by decide))))
  refine lv_aload_n hx hb dX0_read_24 rfl (lv_at hl 0 rfl) ?_
  refine lv_iload_n hx hb dX0_read_25 rfl (lv_at hl 1 rfl) ?_
  refine lv_iload_n hx hb dX0_read_26 rfl (lv_at hl 2 rfl) ?_
  refine x_cs (rest := [.int (nI u), .ref (o 0)]) ⟨hx, hb, hml, hown, hts⟩ (cx_blockOf l a (by omega)) (cwx_blockOf hts ⟨by decide, by decide⟩) hw rfl hl.1 rfl (Nat.le_of_ble_eq_true rfl) dX0_read_27 ⟨Nat.zero_le _, Nat.zero_le _⟩ (fun H locs hw => ?_)
  refine lv_iconst (v := 0) hx hb dX0_read_30 (by decide) ?_
  refine x_cv (rest := []) ⟨hx, hb, hml, hown, hts⟩ (cx_bringIn l D o cA S u (a / 2) 0 (by omega) (by omega) (by omega) hok) (cwx_bringIn hts ⟨by decide, by decide⟩) hw rfl hl.1 rfl (Nat.le_of_ble_eq_true rfl) dX0_read_31 ⟨Nat.zero_le _, Nat.zero_le _⟩ (fun H locs hw => ?_)
  refine lv_aload_n hx hb dX0_read_34 rfl (lv_at hl 0 rfl) ?_
  refine x_g2 hx hb hts hown hw dX0_read_35 ?_
  refine lv_iload_n hx hb dX0_read_38 rfl (lv_at hl 1 rfl) ?_
  refine lv_iload_n hx hb dX0_read_39 rfl (lv_at hl 2 rfl) ?_
  refine x_cs (rest := [.ref (o 3)]) ⟨hx, hb, hml, hown, hts⟩ (cx_wordIndex l u a (by omega) (by omega)) (cwx_wordIndex hts ⟨by decide, by decide⟩) hw rfl hl.1 rfl (Nat.le_of_ble_eq_true rfl) dX0_read_40 ⟨Nat.zero_le _, Nat.zero_le _⟩ (fun H locs hw => ?_)
  refine x_l2 (n := 2 * (2 * u + a / 2 % 2) + a % 2) hx hb hw (by omega) dX0_read_43 ?_
  exact x_reti hx hb hr hlocks hw ⟨rfl, rfl⟩ dX0_read_44
set_option maxRecDepth 100000 in
set_option maxHeartbeats 4000000 in
theorem cx_write (l : Launch) (D : va_G) (o : Nat → Nat) (cA : ClassId) (S : SX) (u a : Nat) (w : Int32) (hu : u < 4) (ha : a < 32) (hok : okB S) : xMi l D o cA yX0_write cX0_write 5 (some .int) 6 [.ref (o 0), .int (nI u), .int (nI a), .int w] S (xWr S u a w) ((xWr S u a w).2 1 - S.2 1) := by
  intro sz
  refine x_met (by decide) rfl (Nat.le_of_ble_eq_true rfl) ?_
  intro P0 e s m below meth c ls hsz hx hb hml hr hlocks hown hts hl hw
  subst hsz
  have hl : lv_has ls 5 [(0, .ref (o 0)), (1, .int (nI u)), (2, .int (nI a)), (3, .int w)] := hl
  have fin : ∀ (H : Heap) (locs : List Loc) (ls : Array Slot), lv_has ls 5 [(4, .int (S.2 1)), (0, .ref (o 0)), (1, .int (nI u)), (2, .int (nI a)), (3, .int w)] → xW D o cA (xA o s.heap.size) s s.heap (xWrT S u a w) H locs → W P0 l e (rmD 6) s m ([.ref (o 0), .int (nI u), .int (nI a), .int w]).toArray below meth c H locs 0 0 (MQ below (xQi D o cA s.heap.size (xWr S u a w) ((xWr S u a w).2 1 - S.2 1)) ([.ref (o 0), .int (nI u), .int (nI a), .int w]).toArray s 0 0 (xA o s.heap.size)) (F0 m 77 ls []) := by
    intro H locs ls hl hw
    refine lv_aload_n hx hb dX0_write_77 rfl (lv_at hl 1 rfl) ?_
    refine x_g2 hx hb hts hown hw dX0_write_78 ?_
    refine lv_iload_n hx hb dX0_write_81 rfl (lv_at hl 2 rfl) ?_
    refine lv_iload_n hx hb dX0_write_82 rfl (lv_at hl 3 rfl) ?_
    refine x_cs (rest := [.ref (o 3)]) ⟨hx, hb, hml, hown, hts⟩ (cx_wordIndex l u a (by omega) (by omega)) (cwx_wordIndex hts ⟨by decide, by decide⟩) hw rfl hl.1 rfl (Nat.le_of_ble_eq_true rfl) dX0_write_83 ⟨Nat.zero_le _, Nat.zero_le _⟩ (fun H locs hw => ?_)
    refine lv_iload_n hx hb dX0_write_86 rfl (lv_at hl 4 rfl) ?_
    refine x_s2 (n := 2 * (2 * u + a / 2 % 2) + a % 2) (x := w) hx hb hw (by omega) dX0_write_87 (fun H locs hw => ?_)
    refine lv_aload_n hx hb dX0_write_88 rfl (lv_at hl 1 rfl) ?_
    refine x_f1 hx hb hts hown hw dX0_write_89 ?_
    refine lv_iload hx hb dX0_write_92 (lv_at hl 0 rfl) ?_
    refine lv_isub hx hb dX0_write_94 ?_
    exact x_reti hx hb hr hlocks hw ⟨rfl, rfl⟩ dX0_write_95
  have mid : ∀ (H : Heap) (locs : List Loc) (ls : Array Slot), lv_has ls 5 [(4, .int (S.2 1)), (0, .ref (o 0)), (1, .int (nI u)), (2, .int (nI a)), (3, .int w)] → xW D o cA (xA o s.heap.size) s s.heap (xWrB S u a) H locs → W P0 l e (rmD 6) s m ([.ref (o 0), .int (nI u), .int (nI a), .int w]).toArray below meth c H locs 0 0 (MQ below (xQi D o cA s.heap.size (xWr S u a w) ((xWr S u a w).2 1 - S.2 1)) ([.ref (o 0), .int (nI u), .int (nI a), .int w]).toArray s 0 0 (xA o s.heap.size)) (F0 m 51 ls []) := by
    intro H locs ls hl hw
    refine lv_aload_n hx hb dX0_write_51 rfl (lv_at hl 1 rfl) ?_
    refine x_ci (rest := []) ⟨hx, hb, hml, hown, hts⟩ (cx_updates l D o cA (xWrB S u a)) (cwx_updates hts ⟨by decide, by decide⟩) hw rfl hl.1 rfl (Nat.le_of_ble_eq_true rfl) dX0_write_52 ⟨Nat.zero_le _, Nat.zero_le _⟩ (fun H locs hw => ?_)
    refine lv_if_eq (tgt := 68) hx hb dX0_write_55 (by decide) (fun g1 => ?_) (fun g1 => ?_)
    · have g1 := bI_z.mp g1
      refine lv_aload_n hx hb dX0_write_68 rfl (lv_at hl 1 rfl) ?_
      refine lv_iload_n hx hb dX0_write_69 rfl (lv_at hl 2 rfl) ?_
      refine lv_iload_n hx hb dX0_write_70 rfl (lv_at hl 3 rfl) ?_
      refine x_cs (rest := [.int (nI u), .ref (o 0)]) ⟨hx, hb, hml, hown, hts⟩ (cx_blockOf l a (by omega)) (cwx_blockOf hts ⟨by decide, by decide⟩) hw rfl hl.1 rfl (Nat.le_of_ble_eq_true rfl) dX0_write_71 ⟨Nat.zero_le _, Nat.zero_le _⟩ (fun H locs hw => ?_)
      refine x_cv (rest := []) ⟨hx, hb, hml, hown, hts⟩ (cx_claim l D o cA (xWrB S u a) u (a / 2) (by omega) (by omega)) (cwx_claim hts ⟨by decide, by decide⟩) hw rfl hl.1 rfl (Nat.le_of_ble_eq_true rfl) dX0_write_74 ⟨Nat.zero_le _, Nat.zero_le _⟩ (fun H locs hw => ?_)
      exact fin _ _ _ hl (by rw [xWrT, if_neg (by simpa using g1)]; exact hw)
    · have g1 := bI_n.mp g1
      refine lv_aload_n hx hb dX0_write_58 rfl (lv_at hl 1 rfl) ?_
      refine lv_iload_n hx hb dX0_write_59 rfl (lv_at hl 2 rfl) ?_
      refine lv_iload_n hx hb dX0_write_60 rfl (lv_at hl 3 rfl) ?_
      refine lv_iload_n hx hb dX0_write_61 rfl (lv_at hl 4 rfl) ?_
      refine x_cv (rest := []) ⟨hx, hb, hml, hown, hts⟩ (cx_tellOthers l D o cA (xWrB S u a) u a w (by omega) (by omega)) (cwx_tellOthers hts ⟨by decide, by decide⟩) hw rfl hl.1 rfl (Nat.le_of_ble_eq_true rfl) dX0_write_62 ⟨Nat.zero_le _, Nat.zero_le _⟩ (fun H locs hw => ?_)
      refine lv_goto (tgt := 77) hx hb dX0_write_65 (by decide) ?_
      exact fin _ _ _ hl (by rw [xWrT, if_pos (by simpa using g1)]; exact hw)
  refine lv_iload_n hx hb dX0_write_0 rfl (lv_at hl 1 rfl) ?_
  refine x_cs (rest := []) ⟨hx, hb, hml, hown, hts⟩ (cx_isProcessor l (nI u)) (cwx_isProcessor hts ⟨by decide, by decide⟩) hw rfl hl.1 rfl (Nat.le_of_ble_eq_true rfl) dX0_write_1 ⟨Nat.zero_le _, Nat.zero_le _⟩ (fun H locs hw => ?_)
  refine lv_if_eq (tgt := 14) hx hb dX0_write_4 (by decide) (fun h9 => absurd h9 (bI_n.mpr (inR_t (n := 4) hu (by decide)))) (fun _ => ?_)
  refine lv_iload_n hx hb dX0_write_7 rfl (lv_at hl 2 rfl) ?_
  refine x_cs (rest := []) ⟨hx, hb, hml, hown, hts⟩ (cx_isAddress l (nI a)) (cwx_isAddress hts ⟨by decide, by decide⟩) hw rfl hl.1 rfl (Nat.le_of_ble_eq_true rfl) dX0_write_8 ⟨Nat.zero_le _, Nat.zero_le _⟩ (fun H locs hw => ?_)
  refine lv_if_ne (tgt := 24) hx hb dX0_write_11 (by decide) (fun _ => ?_) (fun h9 => absurd h9 (bI_n.mpr (inR_t (n := 32) ha (by decide))))
  refine lv_aload_n hx hb dX0_write_24 rfl (lv_at hl 0 rfl) ?_
  refine x_f1 hx hb hts hown hw dX0_write_25 ?_
  refine lv_istore (lv' := [(4, .int (S.2 1)), (0, .ref (o 0)), (1, .int (nI u)), (2, .int (nI a)), (3, .int w)]) hx hb dX0_write_28 hl (by decide) rfl (fun ls hl => ?_)
  refine lv_aload_n hx hb dX0_write_30 rfl (lv_at hl 1 rfl) ?_
  refine lv_iload_n hx hb dX0_write_31 rfl (lv_at hl 2 rfl) ?_
  refine lv_iload_n hx hb dX0_write_32 rfl (lv_at hl 3 rfl) ?_
  refine x_cs (rest := [.int (nI u), .ref (o 0)]) ⟨hx, hb, hml, hown, hts⟩ (cx_blockOf l a (by omega)) (cwx_blockOf hts ⟨by decide, by decide⟩) hw rfl hl.1 rfl (Nat.le_of_ble_eq_true rfl) dX0_write_33 ⟨Nat.zero_le _, Nat.zero_le _⟩ (fun H locs hw => ?_)
  refine lv_aload_n hx hb dX0_write_36 rfl (lv_at hl 1 rfl) ?_
  refine x_ci (rest := [.int (nI (a / 2)), .int (nI u), .ref (o 0)]) ⟨hx, hb, hml, hown, hts⟩ (cx_updates l D o cA S) (cwx_updates hts ⟨by decide, by decide⟩) hw rfl hl.1 rfl (Nat.le_of_ble_eq_true rfl) dX0_write_37 ⟨Nat.zero_le _, Nat.zero_le _⟩ (fun H locs hw => ?_)
  refine lv_if_eq (tgt := 47) hx hb dX0_write_40 (by decide) (fun g2 => ?_) (fun g2 => ?_)
  · have g2 := bI_z.mp g2
    refine lv_iconst (v := 1) hx hb dX0_write_47 (by decide) ?_
    refine x_cv (rest := []) ⟨hx, hb, hml, hown, hts⟩ (cx_bringIn l D o cA S u (a / 2) 1 (by omega) (by omega) (by omega) hok) (cwx_bringIn hts ⟨by decide, by decide⟩) hw rfl hl.1 rfl (Nat.le_of_ble_eq_true rfl) dX0_write_48 ⟨Nat.zero_le _, Nat.zero_le _⟩ (fun H locs hw => ?_)
    exact mid _ _ _ hl (by rw [xWrB, if_neg (by simpa using g2)]; exact hw)
  · have g2 := bI_n.mp g2
    refine lv_iconst (v := 0) hx hb dX0_write_43 (by decide) ?_
    refine lv_goto (tgt := 48) hx hb dX0_write_44 (by decide) ?_
    refine x_cv (rest := []) ⟨hx, hb, hml, hown, hts⟩ (cx_bringIn l D o cA S u (a / 2) 0 (by omega) (by omega) (by omega) hok) (cwx_bringIn hts ⟨by decide, by decide⟩) hw rfl hl.1 rfl (Nat.le_of_ble_eq_true rfl) dX0_write_48 ⟨Nat.zero_le _, Nat.zero_le _⟩ (fun H locs hw => ?_)
    exact mid _ _ _ hl (by rw [xWrB, if_pos (by simpa using g2)]; exact hw)
set_option maxRecDepth 100000 in
set_option maxHeartbeats 4000000 in
theorem cx_evict (l : Launch) (D : va_G) (o : Nat → Nat) (cA : ClassId) (S : SX) (u b : Nat) (hu : u < 4) (hbb : b < 16) (hok : okB S) (hh : xHo S u b = true) : xMi l D o cA yX0_evict cX0_evict 3 (some .boolean) 3 [.ref (o 0), .int (nI u), .int (nI b)] S (xEm S (2 * u + b % 2)) (bI (xDi (S.1 0 (2 * u + b % 2)))) := by
  intro sz
  refine x_met (by decide) rfl (Nat.le_of_ble_eq_true rfl) ?_
  intro P0 e s m below meth c ls hsz hx hb hml hr hlocks hown hts hl hw
  subst hsz
  have hl : lv_has ls 3 [(0, .ref (o 0)), (1, .int (nI u)), (2, .int (nI b))] := hl
  obtain ⟨c9, hc9, hB9⟩ := hok (2 * u + b % 2) (by omega)
  refine lv_iload_n hx hb dX0_evict_0 rfl (lv_at hl 1 rfl) ?_
  refine x_cs (rest := []) ⟨hx, hb, hml, hown, hts⟩ (cx_isProcessor l (nI u)) (cwx_isProcessor hts ⟨by decide, by decide⟩) hw rfl hl.1 rfl (Nat.le_of_ble_eq_true rfl) dX0_evict_1 ⟨Nat.zero_le _, Nat.zero_le _⟩ (fun H locs hw => ?_)
  refine lv_if_eq (tgt := 14) hx hb dX0_evict_4 (by decide) (fun h9 => absurd h9 (bI_n.mpr (inR_t (n := 4) hu (by decide)))) (fun _ => ?_)
  refine lv_iload_n hx hb dX0_evict_7 rfl (lv_at hl 2 rfl) ?_
  refine x_cs (rest := []) ⟨hx, hb, hml, hown, hts⟩ (cx_isBlock l (nI b)) (cwx_isBlock hts ⟨by decide, by decide⟩) hw rfl hl.1 rfl (Nat.le_of_ble_eq_true rfl) dX0_evict_8 ⟨Nat.zero_le _, Nat.zero_le _⟩ (fun H locs hw => ?_)
  refine lv_if_ne (tgt := 24) hx hb dX0_evict_11 (by decide) (fun _ => ?_) (fun h9 => absurd h9 (bI_n.mpr (inR_t (n := 16) hbb (by decide))))
  refine lv_aload_n hx hb dX0_evict_24 rfl (lv_at hl 0 rfl) ?_
  refine lv_iload_n hx hb dX0_evict_25 rfl (lv_at hl 1 rfl) ?_
  refine lv_iload_n hx hb dX0_evict_26 rfl (lv_at hl 2 rfl) ?_
  refine x_ci (rest := []) ⟨hx, hb, hml, hown, hts⟩ (cx_holds l D o cA S u b (by omega) (by omega)) (cwx_holds hts ⟨by decide, by decide⟩) hw rfl hl.1 rfl (Nat.le_of_ble_eq_true rfl) dX0_evict_27 ⟨Nat.zero_le _, Nat.zero_le _⟩ (fun H locs hw => ?_)
  refine lv_if_ne (tgt := 43) hx hb dX0_evict_30 (by decide) (fun _ => ?_) (fun h9 => absurd h9 (bI_n.mpr hh))
  refine lv_aload_n hx hb dX0_evict_43 rfl (lv_at hl 0 rfl) ?_
  refine lv_iload_n hx hb dX0_evict_44 rfl (lv_at hl 1 rfl) ?_
  refine lv_iload_n hx hb dX0_evict_45 rfl (lv_at hl 2 rfl) ?_
  refine x_cs (rest := [.ref (o 0)]) ⟨hx, hb, hml, hown, hts⟩ (cx_lineFor l u b (by omega) (by omega)) (cwx_lineFor hts ⟨by decide, by decide⟩) hw rfl hl.1 rfl (Nat.le_of_ble_eq_true rfl) dX0_evict_46 ⟨Nat.zero_le _, Nat.zero_le _⟩ (fun H locs hw => ?_)
  refine x_ci (rest := []) ⟨hx, hb, hml, hown, hts⟩ (cx_emptyLine l D o cA S (2 * u + b % 2) c9 (by omega) hc9 hB9) (cwx_emptyLine hts ⟨by decide, by decide⟩) hw rfl hl.1 rfl (Nat.le_of_ble_eq_true rfl) dX0_evict_49 ⟨Nat.zero_le _, Nat.zero_le _⟩ (fun H locs hw => ?_)
  exact x_retz hx hb hr hlocks hw ⟨rfl, rfl⟩ dX0_evict_52
end
section
def fA (q sz : Nat) : Nat → Prop := fun a => a = q ∨ sz ≤ a
def fPre (D : va_G) (q : Nat) (cA : ClassId) (n : Nat) (f : Nat → Int32) (sz : Nat) (U : State) : Prop := U.heap.size = sz ∧ va_P D vwCl [(q, .inl (cA, n, .inl f))] U.heap ∧ va_K D vwCl [(cA, .int)] U
def fQ (D : va_G) (q : Nat) (cA : ClassId) (n : Nat) (v : Int32) (sz : Nat) : Array Value → State → Outcome → State → Prop := va_Qv (fun (_ : Unit) => True) (fun _ t => va_P D vwCl [(q, .inl (cA, n, .inl (fun _ => v)))] t.heap) (fA q sz)
set_option maxRecDepth 100000 in
set_option maxHeartbeats 4000000 in
theorem c_fill (l : Launch) (D : va_G) (q : Nat) (cA : ClassId) (n : Nat) (f : Nat → Int32) (v : Int32) (hn : n < 1000) (sz : Nat) : Met l yJ7_fill (.code yJ7_fill cJ7_fill 4 none :: GT) (rmD 0) (va_Pc [.ref q, .int v] (fPre D q cA n f sz)) (fQ D q cA n v sz) 0 0 (fA q sz) := by
  refine Met.ofW (cc := cJ7_fill) (maxL := 4) (ret := none) (by decide) rfl ?_
  intro P0 e s m args below meth c s₁ B hml hv
  obtain ⟨rfl, hsz, hP, hK⟩ := hv
  subst hsz
  have hx := B.exec
  have hb := B.bytes
  have hr := B.returns
  have hlocks := B.notSynchronized
  have hl := lv_entry [Value.ref q, .int v] (n := 4) (Nat.le_of_ble_eq_true rfl)
  rw [lg_entry_eq]
  generalize (lg_sl [Value.ref q, .int v] ++ List.replicate (4 - (lg_sl [Value.ref q, .int v]).length) Slot.unset).toArray = ls at hl ⊢
  have hl : lv_has ls 4 [(0, .ref q), (1, .int v)] := hl
  have hD : va_D (fA q s.heap.size) [(q, .inl (cA, n, .inl f))] := ⟨fun i j p q hp hq _ => by
    have h1 := (List.getElem?_eq_some_iff.mp hp).1
    have h2 := (List.getElem?_eq_some_iff.mp hq).1
    simp at h1 h2
    omega, fun k p hk => by
    have h1 := (List.getElem?_eq_some_iff.mp hk).1
    simp at h1
    subst h1
    have h2 := Option.some.inj hk
    rw [← h2]
    exact Or.inl rfl⟩
  have hS : va_S (fA q s.heap.size) s.heap s.heap [] := va_S.rf
  have loop : ∀ (t k : Nat), t + k = n → ∀ (g : Nat → Int32) (H : Heap) (locs : List Loc) (ls : Array Slot), lv_has ls 4 [(2, .int (nI k)), (3, .int (nI n)), (0, .ref q), (1, .int v)] → va_P D vwCl [(q, .inl (cA, n, .inl g))] H → va_D (fA q s.heap.size) [(q, .inl (cA, n, .inl g))] → va_S (fA q s.heap.size) s.heap H locs → (∀ j, j < k → g j = v) → W P0 l e (rmD 0) s m [Value.ref q, .int v].toArray below meth c H locs 0 0 (MQ below (fQ D q cA n v s.heap.size) [Value.ref q, .int v].toArray s 0 0 (fA q s.heap.size)) (F0 m 5 ls []) := by
    intro t
    induction t with
    | zero =>
      intro k hk g H locs ls hl hP hD hS hg
      obtain rfl : k = n := by omega
      refine lv_iload_n hx hb dJ7_fill_5 rfl (lv_at hl 0 rfl) ?_
      refine lv_iload_n hx hb dJ7_fill_6 rfl (lv_at hl 1 rfl) ?_
      refine lv_icmp_ge (tgt := 20) hx hb dJ7_fill_7 (by decide) (fun _ => ?_) (fun h9 => absurd (nI_le (Nat.le_refl k) (by omega)) h9)
      have hc : H[q]? = some (vp_cell cA (k, .inl g)) := hP 0 _ rfl
      rw [arr_congr (g := fun _ => v) hg] at hc
      have hP2 : va_P D vwCl [(q, .inl (cA, k, .inl (fun _ => v)))] H := fun i p hp => by
        have h1 := (List.getElem?_eq_some_iff.mp hp).1
        simp at h1
        subst h1
        have h2 := Option.some.inj hp
        rw [← h2]
        exact hc
      exact W.vret hx hb hr (fun t ht hW => ⟨⟨(), rfl, trivial, show va_P D vwCl [(q, .inl (cA, k, .inl (fun _ => v)))] t.heap by rw [ht]; exact hP2⟩, hS.F ht⟩) hS.2.2 dJ7_fill_20
    | succ t ih =>
      intro k hk g H locs ls hl hP hD hS hg
      refine lv_iload_n hx hb dJ7_fill_5 rfl (lv_at hl 0 rfl) ?_
      refine lv_iload_n hx hb dJ7_fill_6 rfl (lv_at hl 1 rfl) ?_
      refine lv_icmp_ge (tgt := 20) hx hb dJ7_fill_7 (by decide) (fun h9 => absurd h9 (nI_ge (a := k) (b := n) (by omega) (by omega))) (fun _ => ?_)
      refine lv_aload_n hx hb dJ7_fill_10 rfl (lv_at hl 2 rfl) ?_
      refine lv_iload_n hx hb dJ7_fill_11 rfl (lv_at hl 0 rfl) ?_
      refine lv_iload_n hx hb dJ7_fill_12 rfl (lv_at hl 3 rfl) ?_
      refine va_iast hx hb hK hP hD hS 0 0 rfl rfl (vp_in_nI (show k < n by omega) (by omega)) dJ7_fill_13 (fun H locs hP hD hS => ?_)
      rw [nI_clamp (show k < 2 ^ 31 by omega)] at hP hD
      refine lv_iinc (k := 0) (v := nI (k + 1)) (lv' := [(2, .int (nI (k + 1))), (3, .int (nI n)), (0, .ref q), (1, .int v)]) hx hb dJ7_fill_14 hl rfl (lw_inc k 1) (by decide) rfl (fun ls hl => ?_)
      refine lv_goto (tgt := 5) hx hb dJ7_fill_17 (by decide) ?_
      exact ih (k + 1) (by omega) (upd g k v) H locs ls hl hP hD hS (fun j hj => by
        by_cases h6 : j = k
        · rw [h6, pk_us]
        · rw [pk_un h6]
          exact hg j (by omega))
  refine lv_iconst (v := 0) hx hb dJ7_fill_0 (by decide) ?_
  refine lv_istore_n (lv' := [(2, .int 0), (0, .ref q), (1, .int v)]) hx hb dJ7_fill_1 rfl hl (by decide) rfl (fun ls hl => ?_)
  refine lv_aload_n hx hb dJ7_fill_2 rfl (lv_at hl 1 rfl) ?_
  refine va_alen hx hb hK hP 0 0 rfl rfl (v := nI n) rfl dJ7_fill_3 ?_
  refine lv_istore_n (lv' := [(3, .int (nI n)), (2, .int 0), (0, .ref q), (1, .int v)]) hx hb dJ7_fill_4 rfl hl (by decide) rfl (fun ls hl => ?_)
  exact loop n 0 rfl f s.heap [] ls (lv_sub hl [1, 0, 2, 3] rfl) hP hD hS (fun j hj => absurd hj (Nat.not_lt_zero j))
theorem cw_fill {R : Room} {s : State} {args : Array Value} (hts : ∀ w ∈ GT, w.before args s = true) (hR : 0 + 1 ≤ R.frames ∧ 8 + (4 + 11) + 40 * 0 ≤ R.locals) : CallB R s args RX0 102 yJ7_fill cJ7_fill 4 none ((.code yJ7_fill cJ7_fill 4 none : Cond) :: GT) (rmD 0) 0 0 2 ∧ (Cond.static yJ7_fill).before args s = true :=
  va_cwS 2 hts (show GoodIn GT (va_wsS RX0 102 yJ7_fill ((.code yJ7_fill cJ7_fill 4 none : Cond) :: GT)) from lw_gin (lw_gin (lw_gin (lw_gin lw_self gw_23) gw_2) gw_22) gw_21) rfl rfl rfl (by decide +kernel) hR
section Fill
variable {p : Program} {l : Launch} {e : Env} {R : Room} {s : State} {m : MethodId} {args : Array Value} {below : List Frame} {meth : Method} {c : Code} {H : Heap} {locs : List Loc} {cells slots : Nat} {Q : State → Prop}
variable {cc : ByteArray} {pc : Nat} {ls : Array Slot} {rest : List Value} {D : va_G} {A : Nat → Prop} {H0 : Heap} {o : Nat → Nat} {cA : ClassId} {S : SX}
theorem x_fi0 {v : Int32} {nL : Nat} (F : CallFix p m c cc nL s args GT RX0) (cw : CallB R s args RX0 102 yJ7_fill cJ7_fill 4 none ((.code yJ7_fill cJ7_fill 4 none : Cond) :: GT) (rmD 0) 0 0 2 ∧ (Cond.static yJ7_fill).before args s = true) (hw : xW D o cA A s H0 S H locs) (hsize : ls.size = nL) (hdg : decode cc pc = .ok (.invokestatic 102, 3)) (hf : cells ≤ R.cells ∧ slots ≤ R.slots)
    (kk : ∀ (H1 : Heap) (locs1 : List Loc), xW D o cA A s H0 (zA S 0 (fun _ => v)) H1 locs1 → W p l e R s m args below meth c H1 locs1 cells slots Q (F0 m (pc + 3) ls [])) : W p l e R s m args below meth c H locs cells slots Q (F0 m pc ls [.int v, .ref (o 1)]) := by
  obtain ⟨hP, hD, hS, hK, hA⟩ := id hw
  have hfr : ∀ q, fA (o 1) H.size q → A q := fun q h => by
    rcases h with rfl | h
    · exact hD.2 1 _ (show (xw o cA S)[1]? = some (o 1, _) from rfl)
    · exact hA q (Nat.le_trans hS.1 h)
  refine va_callv (va_runS (As := [.ref (o 1), .int v]) (rest := []) F (c_fill l D (o 1) cA 8 (S.1 0) v (by decide) H.size) cw ⟨fun a U g mk q => ?_, fun U hU hW => ⟨rfl, by rw [hU], by rw [hU]; exact hP.sub [1] rfl, va_K.moved hW.alike hK⟩⟩ rfl rfl hsize rfl (lv_room (Nat.le_of_ble_eq_true rfl)) hdg ⟨hf.1, hf.2⟩) hS (fun q _ h => hfr q h) hfr (fun u t H1 locs1 ht hvm hp hB hz1 hk1 hS1 => ?_)
  · obtain ⟨q0, q1, qP, qK⟩ := q
    exact ⟨q0, q1, qP, va_K.moved (u := U) (U := U.calling g mk a) (Vm.Alike.refl U.vm) qK⟩
  · rw [ht] at hB
    refine kk H1 locs1 (x_r0 hw (hB 0 _ rfl) (fun q hq hne => hk1 q hq (fun h => ?_)) hS1)
    rcases h with h | h
    · exact hne h
    · exact absurd hq (Nat.not_lt.mpr h)
theorem x_fi3 {v : Int32} {nL : Nat} (F : CallFix p m c cc nL s args GT RX0) (cw : CallB R s args RX0 102 yJ7_fill cJ7_fill 4 none ((.code yJ7_fill cJ7_fill 4 none : Cond) :: GT) (rmD 0) 0 0 2 ∧ (Cond.static yJ7_fill).before args s = true) (hw : xW D o cA A s H0 S H locs) (hsize : ls.size = nL) (hdg : decode cc pc = .ok (.invokestatic 102, 3)) (hf : cells ≤ R.cells ∧ slots ≤ R.slots)
    (kk : ∀ (H1 : Heap) (locs1 : List Loc), xW D o cA A s H0 (zA S 3 (fun _ => v)) H1 locs1 → W p l e R s m args below meth c H1 locs1 cells slots Q (F0 m (pc + 3) ls [])) : W p l e R s m args below meth c H locs cells slots Q (F0 m pc ls [.int v, .ref (o 4)]) := by
  obtain ⟨hP, hD, hS, hK, hA⟩ := id hw
  have hfr : ∀ q, fA (o 4) H.size q → A q := fun q h => by
    rcases h with rfl | h
    · exact hD.2 4 _ (show (xw o cA S)[4]? = some (o 4, _) from rfl)
    · exact hA q (Nat.le_trans hS.1 h)
  refine va_callv (va_runS (As := [.ref (o 4), .int v]) (rest := []) F (c_fill l D (o 4) cA 32 (S.1 3) v (by decide) H.size) cw ⟨fun a U g mk q => ?_, fun U hU hW => ⟨rfl, by rw [hU], by rw [hU]; exact hP.sub [4] rfl, va_K.moved hW.alike hK⟩⟩ rfl rfl hsize rfl (lv_room (Nat.le_of_ble_eq_true rfl)) hdg ⟨hf.1, hf.2⟩) hS (fun q _ h => hfr q h) hfr (fun u t H1 locs1 ht hvm hp hB hz1 hk1 hS1 => ?_)
  · obtain ⟨q0, q1, qP, qK⟩ := q
    exact ⟨q0, q1, qP, va_K.moved (u := U) (U := U.calling g mk a) (Vm.Alike.refl U.vm) qK⟩
  · rw [ht] at hB
    refine kk H1 locs1 (x_r3 hw (hB 0 _ rfl) (fun q hq hne => hk1 q hq (fun h => ?_)) hS1)
    rcases h with h | h
    · exact hne h
    · exact absurd hq (Nat.not_lt.mpr h)
theorem x_fi4 {v : Int32} {nL : Nat} (F : CallFix p m c cc nL s args GT RX0) (cw : CallB R s args RX0 102 yJ7_fill cJ7_fill 4 none ((.code yJ7_fill cJ7_fill 4 none : Cond) :: GT) (rmD 0) 0 0 2 ∧ (Cond.static yJ7_fill).before args s = true) (hw : xW D o cA A s H0 S H locs) (hsize : ls.size = nL) (hdg : decode cc pc = .ok (.invokestatic 102, 3)) (hf : cells ≤ R.cells ∧ slots ≤ R.slots)
    (kk : ∀ (H1 : Heap) (locs1 : List Loc), xW D o cA A s H0 (zA S 4 (fun _ => v)) H1 locs1 → W p l e R s m args below meth c H1 locs1 cells slots Q (F0 m (pc + 3) ls [])) : W p l e R s m args below meth c H locs cells slots Q (F0 m pc ls [.int v, .ref (o 5)]) := by
  obtain ⟨hP, hD, hS, hK, hA⟩ := id hw
  have hfr : ∀ q, fA (o 5) H.size q → A q := fun q h => by
    rcases h with rfl | h
    · exact hD.2 5 _ (show (xw o cA S)[5]? = some (o 5, _) from rfl)
    · exact hA q (Nat.le_trans hS.1 h)
  refine va_callv (va_runS (As := [.ref (o 5), .int v]) (rest := []) F (c_fill l D (o 5) cA 5 (S.1 4) v (by decide) H.size) cw ⟨fun a U g mk q => ?_, fun U hU hW => ⟨rfl, by rw [hU], by rw [hU]; exact hP.sub [5] rfl, va_K.moved hW.alike hK⟩⟩ rfl rfl hsize rfl (lv_room (Nat.le_of_ble_eq_true rfl)) hdg ⟨hf.1, hf.2⟩) hS (fun q _ h => hfr q h) hfr (fun u t H1 locs1 ht hvm hp hB hz1 hk1 hS1 => ?_)
  · obtain ⟨q0, q1, qP, qK⟩ := q
    exact ⟨q0, q1, qP, va_K.moved (u := U) (U := U.calling g mk a) (Vm.Alike.refl U.vm) qK⟩
  · rw [ht] at hB
    refine kk H1 locs1 (x_r4 hw (hB 0 _ rfl) (fun q hq hne => hk1 q hq (fun h => ?_)) hS1)
    rcases h with h | h
    · exact hne h
    · exact absurd hq (Nat.not_lt.mpr h)
theorem x_fi5 {v : Int32} {nL : Nat} (F : CallFix p m c cc nL s args GT RX0) (cw : CallB R s args RX0 102 yJ7_fill cJ7_fill 4 none ((.code yJ7_fill cJ7_fill 4 none : Cond) :: GT) (rmD 0) 0 0 2 ∧ (Cond.static yJ7_fill).before args s = true) (hw : xW D o cA A s H0 S H locs) (hsize : ls.size = nL) (hdg : decode cc pc = .ok (.invokestatic 102, 3)) (hf : cells ≤ R.cells ∧ slots ≤ R.slots)
    (kk : ∀ (H1 : Heap) (locs1 : List Loc), xW D o cA A s H0 (zA S 5 (fun _ => v)) H1 locs1 → W p l e R s m args below meth c H1 locs1 cells slots Q (F0 m (pc + 3) ls [])) : W p l e R s m args below meth c H locs cells slots Q (F0 m pc ls [.int v, .ref (o 6)]) := by
  obtain ⟨hP, hD, hS, hK, hA⟩ := id hw
  have hfr : ∀ q, fA (o 6) H.size q → A q := fun q h => by
    rcases h with rfl | h
    · exact hD.2 6 _ (show (xw o cA S)[6]? = some (o 6, _) from rfl)
    · exact hA q (Nat.le_trans hS.1 h)
  refine va_callv (va_runS (As := [.ref (o 6), .int v]) (rest := []) F (c_fill l D (o 6) cA 8 (S.1 5) v (by decide) H.size) cw ⟨fun a U g mk q => ?_, fun U hU hW => ⟨rfl, by rw [hU], by rw [hU]; exact hP.sub [6] rfl, va_K.moved hW.alike hK⟩⟩ rfl rfl hsize rfl (lv_room (Nat.le_of_ble_eq_true rfl)) hdg ⟨hf.1, hf.2⟩) hS (fun q _ h => hfr q h) hfr (fun u t H1 locs1 ht hvm hp hB hz1 hk1 hS1 => ?_)
  · obtain ⟨q0, q1, qP, qK⟩ := q
    exact ⟨q0, q1, qP, va_K.moved (u := U) (U := U.calling g mk a) (Vm.Alike.refl U.vm) qK⟩
  · rw [ht] at hB
    refine kk H1 locs1 (x_r5 hw (hB 0 _ rfl) (fun q hq hne => hk1 q hq (fun h => ?_)) hS1)
    rcases h with h | h
    · exact hne h
    · exact absurd hq (Nat.not_lt.mpr h)
end Fill
set_option maxRecDepth 100000 in
set_option maxHeartbeats 4000000 in
theorem cx_startOver (l : Launch) (D : va_G) (o : Nat → Nat) (cA : ClassId) (S : SX) (x : Int32)  : xMv l D o cA yX0_startOver cX0_startOver 2 1 [.ref (o 0), .int x] S (xSo S x) := by
  intro sz
  refine x_met (by decide) rfl (Nat.le_of_ble_eq_true rfl) ?_
  intro P0 e s m below meth c ls hsz hx hb hml hr hlocks hown hts hl hw
  subst hsz
  have hl : lv_has ls 2 [(0, .ref (o 0)), (1, .int x)] := hl
  refine lv_aload_n hx hb dX0_startOver_0 rfl (lv_at hl 0 rfl) ?_
  refine x_g0 hx hb hts hown hw dX0_startOver_1 ?_
  refine lv_iconst (v := 0) hx hb dX0_startOver_4 (by decide) ?_
  refine x_fi0 (v := 0) ⟨hx, hb, hml, hown, hts⟩ (cw_fill hts ⟨by decide, by decide⟩) hw hl.1 dX0_startOver_5 ⟨Nat.zero_le _, Nat.zero_le _⟩ (fun H locs hw => ?_)
  refine lv_aload_n hx hb dX0_startOver_8 rfl (lv_at hl 0 rfl) ?_
  refine x_g3 hx hb hts hown hw dX0_startOver_9 ?_
  refine lv_iconst (v := 0) hx hb dX0_startOver_12 (by decide) ?_
  refine x_fi3 (v := 0) ⟨hx, hb, hml, hown, hts⟩ (cw_fill hts ⟨by decide, by decide⟩) hw hl.1 dX0_startOver_13 ⟨Nat.zero_le _, Nat.zero_le _⟩ (fun H locs hw => ?_)
  refine lv_aload_n hx hb dX0_startOver_16 rfl (lv_at hl 0 rfl) ?_
  refine x_g4 hx hb hts hown hw dX0_startOver_17 ?_
  refine lv_iconst (v := 0) hx hb dX0_startOver_20 (by decide) ?_
  refine x_fi4 (v := 0) ⟨hx, hb, hml, hown, hts⟩ (cw_fill hts ⟨by decide, by decide⟩) hw hl.1 dX0_startOver_21 ⟨Nat.zero_le _, Nat.zero_le _⟩ (fun H locs hw => ?_)
  refine lv_aload_n hx hb dX0_startOver_24 rfl (lv_at hl 0 rfl) ?_
  refine x_g5 hx hb hts hown hw dX0_startOver_25 ?_
  refine lv_iconst (v := -1) hx hb dX0_startOver_28 (by decide) ?_
  refine x_fi5 (v := (-1)) ⟨hx, hb, hml, hown, hts⟩ (cw_fill hts ⟨by decide, by decide⟩) hw hl.1 dX0_startOver_29 ⟨Nat.zero_le _, Nat.zero_le _⟩ (fun H locs hw => ?_)
  refine lv_aload_n hx hb dX0_startOver_32 rfl (lv_at hl 0 rfl) ?_
  refine lv_iload_n hx hb dX0_startOver_33 rfl (lv_at hl 1 rfl) ?_
  refine x_p0 (x := x) hx hb hts hown hw dX0_startOver_34 (fun H locs hw => ?_)
  refine lv_aload_n hx hb dX0_startOver_37 rfl (lv_at hl 0 rfl) ?_
  refine lv_iconst (v := 0) hx hb dX0_startOver_38 (by decide) ?_
  refine x_p1 (x := 0) hx hb hts hown hw dX0_startOver_39 (fun H locs hw => ?_)
  refine lv_aload_n hx hb dX0_startOver_42 rfl (lv_at hl 0 rfl) ?_
  refine lv_iconst (v := 0) hx hb dX0_startOver_43 (by decide) ?_
  refine x_p2 (x := 0) hx hb hts hown hw dX0_startOver_44 (fun H locs hw => ?_)
  refine lv_aload_n hx hb dX0_startOver_47 rfl (lv_at hl 0 rfl) ?_
  refine lv_iconst (v := 0) hx hb dX0_startOver_48 (by decide) ?_
  refine x_p3 (x := 0) hx hb hts hown hw dX0_startOver_49 (fun H locs hw => ?_)
  exact x_retv hx hb hr hlocks hw rfl dX0_startOver_52
theorem cwx_startOver {R : Room} {s : State} {args : Array Value} (hts : ∀ w ∈ GT, w.before args s = true) (hR : 1 + 1 ≤ R.frames ∧ 8 + (2 + 11) + 40 * 1 ≤ R.locals) : CallW R s args RX0 RX0 28 yX0_startOver cX0_startOver 2 none ((.code yX0_startOver cX0_startOver 2 none : Cond) :: GT) (rmD 1) 0 0 1 :=
  cwV 1 hts (show GoodIn GT (wsV RX0 28 RX0 yX0_startOver ((.code yX0_startOver cX0_startOver 2 none : Cond) :: GT)) from lw_gin (lw_gin (lw_gin (lw_gin (lw_gin lw_self gw_20) gw_1) gw_281) gw_19) gw_18) rfl rfl rfl (by decide +kernel) hR
set_option maxRecDepth 100000 in
set_option maxHeartbeats 4000000 in
theorem cx_choose (l : Launch) (D : va_G) (o : Nat → Nat) (cA : ClassId) (S : SX) (x : Int32) (hx0 : ¬ x < 0) (hx3 : x < 4) : xMi l D o cA yX0_choose cX0_choose 2 (some .boolean) 2 [.ref (o 0), .int x] S (xSo S x) (bI true) := by
  intro sz
  refine x_met (by decide) rfl (Nat.le_of_ble_eq_true rfl) ?_
  intro P0 e s m below meth c ls hsz hx hb hml hr hlocks hown hts hl hw
  subst hsz
  have hl : lv_has ls 2 [(0, .ref (o 0)), (1, .int x)] := hl
  refine lv_iload_n hx hb dX0_choose_0 rfl (lv_at hl 1 rfl) ?_
  refine lv_if_lt (tgt := 9) hx hb dX0_choose_1 (by decide) (fun h9 => absurd h9 (hx0)) (fun _ => ?_)
  refine lv_iload_n hx hb dX0_choose_4 rfl (lv_at hl 1 rfl) ?_
  refine lv_iconst (v := 4) hx hb dX0_choose_5 (by decide) ?_
  refine lv_icmp_lt (tgt := 11) hx hb dX0_choose_6 (by decide) (fun _ => ?_) (fun h9 => absurd (hx3) h9)
  refine lv_aload_n hx hb dX0_choose_11 rfl (lv_at hl 0 rfl) ?_
  refine lv_iload_n hx hb dX0_choose_12 rfl (lv_at hl 1 rfl) ?_
  refine x_cv (rest := []) ⟨hx, hb, hml, hown, hts⟩ (cx_startOver l D o cA S x) (cwx_startOver hts ⟨by decide, by decide⟩) hw rfl hl.1 rfl (Nat.le_of_ble_eq_true rfl) dX0_choose_13 ⟨Nat.zero_le _, Nat.zero_le _⟩ (fun H locs hw => ?_)
  refine lv_iconst (v := 1) hx hb dX0_choose_16 (by decide) ?_
  exact x_retz hx hb hr hlocks hw ⟨rfl, rfl⟩ dX0_choose_17
set_option maxRecDepth 100000 in
set_option maxHeartbeats 4000000 in
theorem cx_choose_bad (l : Launch) (D : va_G) (o : Nat → Nat) (cA : ClassId) (S : SX) (x : Int32) (hbad : x < 0 ∨ ¬ x < 4) : xMi l D o cA yX0_choose cX0_choose 2 (some .boolean) 0 [.ref (o 0), .int x] S (S) (bI false) := by
  intro sz
  refine x_met (by decide) rfl (Nat.le_of_ble_eq_true rfl) ?_
  intro P0 e s m below meth c ls hsz hx hb hml hr hlocks hown hts hl hw
  subst hsz
  have hl : lv_has ls 2 [(0, .ref (o 0)), (1, .int x)] := hl
  refine lv_iload_n hx hb dX0_choose_0 rfl (lv_at hl 1 rfl) ?_
  refine lv_if_lt (tgt := 9) hx hb dX0_choose_1 (by decide) (fun g1 => ?_) (fun g1 => ?_)
  · refine lv_iconst (v := 0) hx hb dX0_choose_9 (by decide) ?_
    exact x_retz hx hb hr hlocks hw ⟨rfl, rfl⟩ dX0_choose_10
  · refine lv_iload_n hx hb dX0_choose_4 rfl (lv_at hl 1 rfl) ?_
    refine lv_iconst (v := 4) hx hb dX0_choose_5 (by decide) ?_
    refine lv_icmp_lt (tgt := 11) hx hb dX0_choose_6 (by decide) (fun h9 => absurd h9 (hbad.resolve_left g1)) (fun _ => ?_)
    refine lv_iconst (v := 0) hx hb dX0_choose_9 (by decide) ?_
    exact x_retz hx hb hr hlocks hw ⟨rfl, rfl⟩ dX0_choose_10
end
section
set_option maxRecDepth 100000 in
set_option maxHeartbeats 4000000 in
theorem cm_within (l : Launch) (x t : Int32)  : sM l yX1_within cX1_within 2 (some .boolean) 0 [.int x, .int t] (bI (inW x t)) := by
  refine s_met (by decide) rfl (Nat.le_of_ble_eq_true rfl) ?_
  intro P0 e s m below meth c ls hx hb hml hr hlocks hown hts hl hw
  have hl : lv_has ls 2 [(0, .int x), (1, .int t)] := hl
  refine lv_iload_n hx hb dX1_within_0 rfl (lv_at hl 0 rfl) ?_
  refine lv_if_lt (tgt := 13) hx hb dX1_within_1 (by decide) (fun g1 => ?_) (fun g1 => ?_)
  · refine lv_iconst (v := 0) hx hb dX1_within_13 (by decide) ?_
    exact s_retz hx hb hr hlocks hw (by simp [inW, bI, g1]) dX1_within_14
  · refine lv_iload_n hx hb dX1_within_4 rfl (lv_at hl 0 rfl) ?_
    refine lv_iload_n hx hb dX1_within_5 rfl (lv_at hl 1 rfl) ?_
    refine lv_icmp_gt (tgt := 13) hx hb dX1_within_6 (by decide) (fun g2 => ?_) (fun g2 => ?_)
    · refine lv_iconst (v := 0) hx hb dX1_within_13 (by decide) ?_
      exact s_retz hx hb hr hlocks hw (by simp [inW, bI, g1, g2]) dX1_within_14
    · refine lv_iconst (v := 1) hx hb dX1_within_9 (by decide) ?_
      refine lv_goto (tgt := 14) hx hb dX1_within_10 (by decide) ?_
      exact s_retz hx hb hr hlocks hw (by simp [inW, bI, g1, g2]) dX1_within_14
theorem cwm_within {R : Room} {s : State} {args : Array Value} (hts : ∀ w ∈ GT, w.before args s = true) (hR : 0 + 1 ≤ R.frames ∧ 8 + (2 + 11) + 40 * 0 ≤ R.locals) : CallB R s args RX1 70 yX1_within cX1_within 2 (some .boolean) ((.code yX1_within cX1_within 2 (some .boolean) : Cond) :: GT) (rmD 0) 0 0 2 ∧ (Cond.static yX1_within).before args s = true :=
  va_cwS 2 hts (show GoodIn GT (va_wsS RX1 70 yX1_within ((.code yX1_within cX1_within 2 (some .boolean) : Cond) :: GT)) from lw_gin (lw_gin (lw_gin (lw_gin lw_self gw_202) gw_3) gw_201) gw_200) rfl rfl rfl (by decide +kernel) hR
set_option maxRecDepth 100000 in
set_option maxHeartbeats 4000000 in
theorem cm_protocol (l : Launch) (D : va_G) (o : Nat → Nat) (cA : ClassId) (S : SX)   : mMi l D o cA yX1_protocol cX1_protocol 1 (some .int) 0 [.ref (o 0)] S (S) (S.2 0) := by
  intro sz
  refine m_met (by decide) rfl (Nat.le_of_ble_eq_true rfl) ?_
  intro P0 e s m below meth c ls hsz hx hb hml hr hlocks hown hts hl hw
  subst hsz
  have hl : lv_has ls 1 [(0, .ref (o 0))] := hl
  refine lv_aload_n hx hb dX1_protocol_0 rfl (lv_at hl 0 rfl) ?_
  refine m_f0 hx hb hts hown hw dX1_protocol_1 ?_
  exact m_reti hx hb hr hlocks hw ⟨rfl, rfl⟩ dX1_protocol_4
set_option maxRecDepth 100000 in
set_option maxHeartbeats 4000000 in
theorem cm_hits (l : Launch) (D : va_G) (o : Nat → Nat) (cA : ClassId) (S : SX)   : mMi l D o cA yX1_hits cX1_hits 1 (some .int) 0 [.ref (o 0)] S (S) (S.2 2) := by
  intro sz
  refine m_met (by decide) rfl (Nat.le_of_ble_eq_true rfl) ?_
  intro P0 e s m below meth c ls hsz hx hb hml hr hlocks hown hts hl hw
  subst hsz
  have hl : lv_has ls 1 [(0, .ref (o 0))] := hl
  refine lv_aload_n hx hb dX1_hits_0 rfl (lv_at hl 0 rfl) ?_
  refine m_f2 hx hb hts hown hw dX1_hits_1 ?_
  exact m_reti hx hb hr hlocks hw ⟨rfl, rfl⟩ dX1_hits_4
set_option maxRecDepth 100000 in
set_option maxHeartbeats 4000000 in
theorem cm_misses (l : Launch) (D : va_G) (o : Nat → Nat) (cA : ClassId) (S : SX)   : mMi l D o cA yX1_misses cX1_misses 1 (some .int) 0 [.ref (o 0)] S (S) (S.2 3) := by
  intro sz
  refine m_met (by decide) rfl (Nat.le_of_ble_eq_true rfl) ?_
  intro P0 e s m below meth c ls hsz hx hb hml hr hlocks hown hts hl hw
  subst hsz
  have hl : lv_has ls 1 [(0, .ref (o 0))] := hl
  refine lv_aload_n hx hb dX1_misses_0 rfl (lv_at hl 0 rfl) ?_
  refine m_f3 hx hb hts hown hw dX1_misses_1 ?_
  exact m_reti hx hb hr hlocks hw ⟨rfl, rfl⟩ dX1_misses_4
set_option maxRecDepth 100000 in
set_option maxHeartbeats 4000000 in
theorem cm_thrown (l : Launch) (D : va_G) (o : Nat → Nat) (cA : ClassId) (S : SX)   : mMi l D o cA yX1_thrown cX1_thrown 1 (some .int) 0 [.ref (o 0)] S (S) (S.2 4) := by
  intro sz
  refine m_met (by decide) rfl (Nat.le_of_ble_eq_true rfl) ?_
  intro P0 e s m below meth c ls hsz hx hb hml hr hlocks hown hts hl hw
  subst hsz
  have hl : lv_has ls 1 [(0, .ref (o 0))] := hl
  refine lv_aload_n hx hb dX1_thrown_0 rfl (lv_at hl 0 rfl) ?_
  refine m_f4 hx hb hts hown hw dX1_thrown_1 ?_
  exact m_reti hx hb hr hlocks hw ⟨rfl, rfl⟩ dX1_thrown_4
set_option maxRecDepth 100000 in
set_option maxHeartbeats 4000000 in
theorem cm_invalidates (l : Launch) (D : va_G) (o : Nat → Nat) (cA : ClassId) (S : SX)   : mMi l D o cA yX1_invalidates cX1_invalidates 1 (some .boolean) 0 [.ref (o 0)] S (S) (bI (decide (¬ 3 ≤ S.2 0))) := by
  intro sz
  refine m_met (by decide) rfl (Nat.le_of_ble_eq_true rfl) ?_
  intro P0 e s m below meth c ls hsz hx hb hml hr hlocks hown hts hl hw
  subst hsz
  have hl : lv_has ls 1 [(0, .ref (o 0))] := hl
  refine lv_aload_n hx hb dX1_invalidates_0 rfl (lv_at hl 0 rfl) ?_
  refine m_f0 hx hb hts hown hw dX1_invalidates_1 ?_
  refine lv_iconst (v := 3) hx hb dX1_invalidates_4 (by decide) ?_
  refine lv_icmp_ge (tgt := 12) hx hb dX1_invalidates_5 (by decide) (fun g1 => ?_) (fun g1 => ?_)
  · refine lv_iconst (v := 0) hx hb dX1_invalidates_12 (by decide) ?_
    exact m_retz hx hb hr hlocks hw ⟨by simp [bI, g1], rfl⟩ dX1_invalidates_13
  · refine lv_iconst (v := 1) hx hb dX1_invalidates_8 (by decide) ?_
    refine lv_goto (tgt := 13) hx hb dX1_invalidates_9 (by decide) ?_
    exact m_retz hx hb hr hlocks hw ⟨by simp [bI, g1], rfl⟩ dX1_invalidates_13
theorem cwm_invalidates {R : Room} {s : State} {args : Array Value} (hts : ∀ w ∈ GT, w.before args s = true) (hR : 0 + 1 ≤ R.frames ∧ 8 + (1 + 11) + 40 * 0 ≤ R.locals) : CallW R s args RX1 RX1 79 yX1_invalidates cX1_invalidates 1 (some .boolean) ((.code yX1_invalidates cX1_invalidates 1 (some .boolean) : Cond) :: GT) (rmD 0) 0 0 0 :=
  cwV 0 hts (show GoodIn GT (wsV RX1 79 RX1 yX1_invalidates ((.code yX1_invalidates cX1_invalidates 1 (some .boolean) : Cond) :: GT)) from lw_gin (lw_gin (lw_gin (lw_gin (lw_gin lw_self gw_239) gw_3) gw_307) gw_238) gw_237) rfl rfl rfl (by decide +kernel) hR
set_option maxRecDepth 100000 in
set_option maxHeartbeats 4000000 in
theorem cm_stateOf (l : Launch) (D : va_G) (o : Nat → Nat) (cA : ClassId) (S : SX) (u b : Nat) (hu : u < 4) (hbb : b < 16) : mMi l D o cA yX1_stateOf cX1_stateOf 3 (some .int) 0 [.ref (o 0), .int (nI u), .int (nI b)] S (S) (S.1 0 (16 * u + b)) := by
  intro sz
  refine m_met (by decide) rfl (Nat.le_of_ble_eq_true rfl) ?_
  intro P0 e s m below meth c ls hsz hx hb hml hr hlocks hown hts hl hw
  subst hsz
  have hl : lv_has ls 3 [(0, .ref (o 0)), (1, .int (nI u)), (2, .int (nI b))] := hl
  refine lv_aload_n hx hb dX1_stateOf_0 rfl (lv_at hl 0 rfl) ?_
  refine m_g0 hx hb hts hown hw dX1_stateOf_1 ?_
  refine lv_bipush (v := 16) hx hb dX1_stateOf_4 (by decide) ?_
  refine lv_iload_n hx hb dX1_stateOf_6 rfl (lv_at hl 1 rfl) ?_
  refine lv_imul hx hb dX1_stateOf_7 ?_
  refine lw_top (y := nI (16 * u)) (pk_mul 16 u) ?_
  refine lv_iload_n hx hb dX1_stateOf_8 rfl (lv_at hl 2 rfl) ?_
  refine lv_iadd hx hb dX1_stateOf_9 ?_
  refine lw_top (y := nI ((16 * u) + b)) (nI_add (16 * u) b) ?_
  refine m_l0 (n := (16 * u) + b) hx hb hw (by omega) dX1_stateOf_10 ?_
  exact m_reti hx hb hr hlocks hw ⟨rfl, rfl⟩ dX1_stateOf_11
theorem cwm_stateOf {R : Room} {s : State} {args : Array Value} (hts : ∀ w ∈ GT, w.before args s = true) (hR : 0 + 1 ≤ R.frames ∧ 8 + (3 + 11) + 40 * 0 ≤ R.locals) : CallW R s args RX1 RX1 41 yX1_stateOf cX1_stateOf 3 (some .int) ((.code yX1_stateOf cX1_stateOf 3 (some .int) : Cond) :: GT) (rmD 0) 0 0 2 :=
  cwV 2 hts (show GoodIn GT (wsV RX1 41 RX1 yX1_stateOf ((.code yX1_stateOf cX1_stateOf 3 (some .int) : Cond) :: GT)) from lw_gin (lw_gin (lw_gin (lw_gin (lw_gin lw_self gw_208) gw_3) gw_298) gw_207) gw_206) rfl rfl rfl (by decide +kernel) hR
set_option maxRecDepth 100000 in
set_option maxHeartbeats 4000000 in
theorem cm_setState (l : Launch) (D : va_G) (o : Nat → Nat) (cA : ClassId) (S : SX) (u b : Nat) (v : Int32) (hu : u < 4) (hbb : b < 16) : mMv l D o cA yX1_setState cX1_setState 4 0 [.ref (o 0), .int (nI u), .int (nI b), .int v] S (mSe S u b v) := by
  intro sz
  refine m_met (by decide) rfl (Nat.le_of_ble_eq_true rfl) ?_
  intro P0 e s m below meth c ls hsz hx hb hml hr hlocks hown hts hl hw
  subst hsz
  have hl : lv_has ls 4 [(0, .ref (o 0)), (1, .int (nI u)), (2, .int (nI b)), (3, .int v)] := hl
  refine lv_aload_n hx hb dX1_setState_0 rfl (lv_at hl 0 rfl) ?_
  refine m_g0 hx hb hts hown hw dX1_setState_1 ?_
  refine lv_bipush (v := 16) hx hb dX1_setState_4 (by decide) ?_
  refine lv_iload_n hx hb dX1_setState_6 rfl (lv_at hl 1 rfl) ?_
  refine lv_imul hx hb dX1_setState_7 ?_
  refine lw_top (y := nI (16 * u)) (pk_mul 16 u) ?_
  refine lv_iload_n hx hb dX1_setState_8 rfl (lv_at hl 2 rfl) ?_
  refine lv_iadd hx hb dX1_setState_9 ?_
  refine lw_top (y := nI ((16 * u) + b)) (nI_add (16 * u) b) ?_
  refine lv_iload_n hx hb dX1_setState_10 rfl (lv_at hl 3 rfl) ?_
  refine m_s0 (n := (16 * u) + b) (x := v) hx hb hw (by omega) dX1_setState_11 (fun H locs hw => ?_)
  exact m_retv hx hb hr hlocks hw rfl dX1_setState_12
theorem cwm_setState {R : Room} {s : State} {args : Array Value} (hts : ∀ w ∈ GT, w.before args s = true) (hR : 0 + 1 ≤ R.frames ∧ 8 + (4 + 11) + 40 * 0 ≤ R.locals) : CallW R s args RX1 RX1 53 yX1_setState cX1_setState 4 none ((.code yX1_setState cX1_setState 4 none : Cond) :: GT) (rmD 0) 0 0 3 :=
  cwV 3 hts (show GoodIn GT (wsV RX1 53 RX1 yX1_setState ((.code yX1_setState cX1_setState 4 none : Cond) :: GT)) from lw_gin (lw_gin (lw_gin (lw_gin (lw_gin lw_self gw_223) gw_3) gw_303) gw_222) gw_221) rfl rfl rfl (by decide +kernel) hR
set_option maxRecDepth 100000 in
set_option maxHeartbeats 4000000 in
theorem cm_transact (l : Launch) (D : va_G) (o : Nat → Nat) (cA : ClassId) (S : SX) (k u b : Nat) (hk : k < 5) (hu : u < 4) (hbb : b < 16) : mMv l D o cA yX1_transact cX1_transact 5 0 [.ref (o 0), .int (nI k), .int (nI u), .int (nI b)] S (mTr S k u b) := by
  intro sz
  refine m_met (by decide) rfl (Nat.le_of_ble_eq_true rfl) ?_
  intro P0 e s m below meth c ls hsz hx hb hml hr hlocks hown hts hl hw
  subst hsz
  have hl : lv_has ls 5 [(0, .ref (o 0)), (1, .int (nI k)), (2, .int (nI u)), (3, .int (nI b))] := hl
  have loop : ∀ (j : Nat), j < 8 → ∀ (f : Nat → Int32) (H : Heap) (locs : List Loc) (ls : Array Slot), lv_has ls 5 [(4, .int (nI j)), (0, .ref (o 0)), (1, .int (nI k)), (2, .int (nI u)), (3, .int (nI b))] → mW D o cA (mA o s.heap.size) s s.heap (zA (zA S 3 (upd (S.1 3) k (S.1 3 k + 1))) 4 f) H locs → shF j f = shF 7 (S.1 4) → W P0 l e (rmD 0) s m ([.ref (o 0), .int (nI k), .int (nI u), .int (nI b)]).toArray below meth c H locs 0 0 (MQ below (mQv D o cA s.heap.size (mTr S k u b)) ([.ref (o 0), .int (nI k), .int (nI u), .int (nI b)]).toArray s 0 0 (mA o s.heap.size)) (F0 m 14 ls []) := by
    intro j
    induction j with
    | zero =>
      intro hj f H locs ls hl hw hf
      refine lv_iload hx hb dX1_transact_14 (lv_at hl 0 rfl) ?_
      refine lv_if_le (tgt := 41) hx hb dX1_transact_16 (by decide) (fun _ => ?_) (fun h9 => absurd (by decide) h9)
      refine lv_aload_n hx hb dX1_transact_41 rfl (lv_at hl 1 rfl) ?_
      refine m_g4 hx hb hts hown hw dX1_transact_42 ?_
      refine lv_iconst (v := 0) hx hb dX1_transact_45 (by decide) ?_
      refine lv_bipush (v := 64) hx hb dX1_transact_46 (by decide) ?_
      refine lv_iload_n hx hb dX1_transact_48 rfl (lv_at hl 2 rfl) ?_
      refine lv_imul hx hb dX1_transact_49 ?_
      refine lw_top (y := nI (64 * k)) (pk_mul 64 k) ?_
      refine lv_bipush (v := 16) hx hb dX1_transact_50 (by decide) ?_
      refine lv_iload_n hx hb dX1_transact_52 rfl (lv_at hl 3 rfl) ?_
      refine lv_imul hx hb dX1_transact_53 ?_
      refine lw_top (y := nI (16 * u)) (pk_mul 16 u) ?_
      refine lv_iadd hx hb dX1_transact_54 ?_
      refine lw_top (y := nI ((64 * k) + (16 * u))) (nI_add (64 * k) (16 * u)) ?_
      refine lv_iload_n hx hb dX1_transact_55 rfl (lv_at hl 4 rfl) ?_
      refine lv_iadd hx hb dX1_transact_56 ?_
      refine lw_top (y := nI (((64 * k) + (16 * u)) + b)) (nI_add ((64 * k) + (16 * u)) b) ?_
      refine m_s4 (n := 0) (x := nI (((64 * k) + (16 * u)) + b)) hx hb hw (by omega) dX1_transact_57 (fun H locs hw => ?_)
      refine lv_aload_n hx hb dX1_transact_58 rfl (lv_at hl 1 rfl) ?_
      refine lv_dup hx hb dX1_transact_59 rfl ?_
      refine m_f1 hx hb hts hown hw dX1_transact_60 ?_
      refine lv_iconst (v := 1) hx hb dX1_transact_63 (by decide) ?_
      refine lv_iadd hx hb dX1_transact_64 ?_
      refine m_p1 (x := (((zA (zA (zA S 3 (upd (S.1 3) k (S.1 3 k + 1))) 4 f) 4 (upd ((zA (zA S 3 (upd (S.1 3) k (S.1 3 k + 1))) 4 f).1 4) 0 (nI (((64 * k) + (16 * u)) + b)))).2 1) + 1)) hx hb hts hown hw dX1_transact_65 (fun H locs hw => ?_)
      exact m_retv hx hb hr hlocks hw (by unfold mTr; rw [← show f = shF 7 (S.1 4) from hf, zA_zA, zA_s]; rfl) dX1_transact_68
    | succ j ih =>
      intro hj f H locs ls hl hw hf
      refine lv_iload hx hb dX1_transact_14 (lv_at hl 0 rfl) ?_
      refine lv_if_le (tgt := 41) hx hb dX1_transact_16 (by decide) (fun h9 => absurd h9 (nI_nle (by omega) (by omega))) (fun _ => ?_)
      refine lv_aload_n hx hb dX1_transact_19 rfl (lv_at hl 1 rfl) ?_
      refine m_g4 hx hb hts hown hw dX1_transact_20 ?_
      refine lv_iload hx hb dX1_transact_23 (lv_at hl 0 rfl) ?_
      refine lv_aload_n hx hb dX1_transact_25 rfl (lv_at hl 1 rfl) ?_
      refine m_g4 hx hb hts hown hw dX1_transact_26 ?_
      refine lv_iload hx hb dX1_transact_29 (lv_at hl 0 rfl) ?_
      refine lv_iconst (v := 1) hx hb dX1_transact_31 (by decide) ?_
      refine lv_isub hx hb dX1_transact_32 ?_
      refine lw_top (y := nI ((j + 1) - 1)) (pk_sub (a := (j + 1)) (b := 1) (by omega)) ?_
      refine lw_top (y := nI (j)) (congrArg nI (by omega)) ?_
      refine m_l4 (n := j) hx hb hw (by omega) dX1_transact_33 ?_
      refine m_s4 (n := j + 1) (x := ((zA (zA S 3 (upd (S.1 3) k (S.1 3 k + 1))) 4 f).1 4 j)) hx hb hw (by omega) dX1_transact_34 (fun H locs hw => ?_)
      rw [zA_zA, zA_s] at hw
      refine lv_iinc (k := 0) (v := nI j) (lv' := [(4, .int (nI j)), (0, .ref (o 0)), (1, .int (nI k)), (2, .int (nI u)), (3, .int (nI b))]) hx hb dX1_transact_35 hl rfl (pk_m1 j) (by decide) rfl (fun ls hl => ?_)
      refine lv_goto (tgt := 14) hx hb dX1_transact_38 (by decide) ?_
      exact ih (by omega) _ _ _ _ hl hw hf
  refine lv_aload_n hx hb dX1_transact_0 rfl (lv_at hl 0 rfl) ?_
  refine m_g3 hx hb hts hown hw dX1_transact_1 ?_
  refine lv_iload_n hx hb dX1_transact_4 rfl (lv_at hl 1 rfl) ?_
  refine lv_dup2_11 hx hb dX1_transact_5 rfl rfl ?_
  refine m_l3 (n := k) hx hb hw (by omega) dX1_transact_6 ?_
  refine lv_iconst (v := 1) hx hb dX1_transact_7 (by decide) ?_
  refine lv_iadd hx hb dX1_transact_8 ?_
  refine m_s3 (n := k) (x := ((S.1 3 k) + 1)) hx hb hw (by omega) dX1_transact_9 (fun H locs hw => ?_)
  refine lv_bipush (v := 7) hx hb dX1_transact_10 (by decide) ?_
  refine lv_istore (lv' := [(4, .int 7), (0, .ref (o 0)), (1, .int (nI k)), (2, .int (nI u)), (3, .int (nI b))]) hx hb dX1_transact_12 hl (by decide) rfl (fun ls hl => ?_)
  exact loop 7 (by decide) (S.1 4) _ _ _ hl (by rw [show S.1 4 = (zA S 3 (upd (S.1 3) k (S.1 3 k + 1))).1 4 from rfl, zA_id]; exact hw) rfl
theorem cwm_transact {R : Room} {s : State} {args : Array Value} (hts : ∀ w ∈ GT, w.before args s = true) (hR : 0 + 1 ≤ R.frames ∧ 8 + (5 + 11) + 40 * 0 ≤ R.locals) : CallW R s args RX1 RX1 45 yX1_transact cX1_transact 5 none ((.code yX1_transact cX1_transact 5 none : Cond) :: GT) (rmD 0) 0 0 3 :=
  cwV 3 hts (show GoodIn GT (wsV RX1 45 RX1 yX1_transact ((.code yX1_transact cX1_transact 5 none : Cond) :: GT)) from lw_gin (lw_gin (lw_gin (lw_gin (lw_gin lw_self gw_217) gw_3) gw_301) gw_216) gw_215) rfl rfl rfl (by decide +kernel) hR
set_option maxRecDepth 100000 in
set_option maxHeartbeats 4000000 in
theorem cm_toMemory (l : Launch) (D : va_G) (o : Nat → Nat) (cA : ClassId) (S : SX) (u b : Nat) (hu : u < 4) (hbb : b < 16) : mMv l D o cA yX1_toMemory cX1_toMemory 4 0 [.ref (o 0), .int (nI u), .int (nI b)] S (mTm S u b) := by
  intro sz
  refine m_met (by decide) rfl (Nat.le_of_ble_eq_true rfl) ?_
  intro P0 e s m below meth c ls hsz hx hb hml hr hlocks hown hts hl hw
  subst hsz
  have hl : lv_has ls 4 [(0, .ref (o 0)), (1, .int (nI u)), (2, .int (nI b))] := hl
  refine lv_iconst (v := 0) hx hb dX1_toMemory_0 (by decide) ?_
  refine lv_istore_n (lv' := [(3, .int 0), (0, .ref (o 0)), (1, .int (nI u)), (2, .int (nI b))]) hx hb dX1_toMemory_1 rfl hl (by decide) rfl (fun ls hl => ?_)
  refine lv_iload_n hx hb dX1_toMemory_2 rfl (lv_at hl 0 rfl) ?_
  refine lv_iconst (v := 2) hx hb dX1_toMemory_3 (by decide) ?_
  refine lv_icmp_ge (tgt := 38) hx hb dX1_toMemory_4 (by decide) (fun h9 => absurd h9 (by decide)) (fun _ => ?_)
  refine lv_aload_n hx hb dX1_toMemory_7 rfl (lv_at hl 1 rfl) ?_
  refine m_g2 hx hb hts hown hw dX1_toMemory_8 ?_
  refine lv_iconst (v := 2) hx hb dX1_toMemory_11 (by decide) ?_
  refine lv_iload_n hx hb dX1_toMemory_12 rfl (lv_at hl 3 rfl) ?_
  refine lv_imul hx hb dX1_toMemory_13 ?_
  refine lw_top (y := nI (2 * b)) (pk_mul 2 b) ?_
  refine lv_iload_n hx hb dX1_toMemory_14 rfl (lv_at hl 0 rfl) ?_
  refine lv_iadd hx hb dX1_toMemory_15 ?_
  refine lw_top (y := nI ((2 * b) + 0)) (nI_add (2 * b) 0) ?_
  refine lv_aload_n hx hb dX1_toMemory_16 rfl (lv_at hl 1 rfl) ?_
  refine m_g1 hx hb hts hown hw dX1_toMemory_17 ?_
  refine lv_bipush (v := 32) hx hb dX1_toMemory_20 (by decide) ?_
  refine lv_iload_n hx hb dX1_toMemory_22 rfl (lv_at hl 2 rfl) ?_
  refine lv_imul hx hb dX1_toMemory_23 ?_
  refine lw_top (y := nI (32 * u)) (pk_mul 32 u) ?_
  refine lv_iconst (v := 2) hx hb dX1_toMemory_24 (by decide) ?_
  refine lv_iload_n hx hb dX1_toMemory_25 rfl (lv_at hl 3 rfl) ?_
  refine lv_imul hx hb dX1_toMemory_26 ?_
  refine lw_top (y := nI (2 * b)) (pk_mul 2 b) ?_
  refine lv_iadd hx hb dX1_toMemory_27 ?_
  refine lw_top (y := nI ((32 * u) + (2 * b))) (nI_add (32 * u) (2 * b)) ?_
  refine lv_iload_n hx hb dX1_toMemory_28 rfl (lv_at hl 0 rfl) ?_
  refine lv_iadd hx hb dX1_toMemory_29 ?_
  refine lw_top (y := nI (((32 * u) + (2 * b)) + 0)) (nI_add ((32 * u) + (2 * b)) 0) ?_
  refine m_l1 (n := ((32 * u) + (2 * b)) + 0) hx hb hw (by omega) dX1_toMemory_30 ?_
  refine m_s2 (n := (2 * b) + 0) (x := (S.1 1 (((32 * u) + (2 * b)) + 0))) hx hb hw (by omega) dX1_toMemory_31 (fun H locs hw => ?_)
  refine lv_iinc (k := 0) (v := nI (0 + 1)) (lv' := [(3, .int (nI (0 + 1))), (0, .ref (o 0)), (1, .int (nI u)), (2, .int (nI b))]) hx hb dX1_toMemory_32 hl rfl (lw_inc 0 1) (by decide) rfl (fun ls hl => ?_)
  refine lv_goto (tgt := 2) hx hb dX1_toMemory_35 (by decide) ?_
  refine lv_iload_n hx hb dX1_toMemory_2 rfl (lv_at hl 0 rfl) ?_
  refine lv_iconst (v := 2) hx hb dX1_toMemory_3 (by decide) ?_
  refine lv_icmp_ge (tgt := 38) hx hb dX1_toMemory_4 (by decide) (fun h9 => absurd h9 (by decide)) (fun _ => ?_)
  refine lv_aload_n hx hb dX1_toMemory_7 rfl (lv_at hl 1 rfl) ?_
  refine m_g2 hx hb hts hown hw dX1_toMemory_8 ?_
  refine lv_iconst (v := 2) hx hb dX1_toMemory_11 (by decide) ?_
  refine lv_iload_n hx hb dX1_toMemory_12 rfl (lv_at hl 3 rfl) ?_
  refine lv_imul hx hb dX1_toMemory_13 ?_
  refine lw_top (y := nI (2 * b)) (pk_mul 2 b) ?_
  refine lv_iload_n hx hb dX1_toMemory_14 rfl (lv_at hl 0 rfl) ?_
  refine lv_iadd hx hb dX1_toMemory_15 ?_
  refine lw_top (y := nI ((2 * b) + (0 + 1))) (nI_add (2 * b) (0 + 1)) ?_
  refine lv_aload_n hx hb dX1_toMemory_16 rfl (lv_at hl 1 rfl) ?_
  refine m_g1 hx hb hts hown hw dX1_toMemory_17 ?_
  refine lv_bipush (v := 32) hx hb dX1_toMemory_20 (by decide) ?_
  refine lv_iload_n hx hb dX1_toMemory_22 rfl (lv_at hl 2 rfl) ?_
  refine lv_imul hx hb dX1_toMemory_23 ?_
  refine lw_top (y := nI (32 * u)) (pk_mul 32 u) ?_
  refine lv_iconst (v := 2) hx hb dX1_toMemory_24 (by decide) ?_
  refine lv_iload_n hx hb dX1_toMemory_25 rfl (lv_at hl 3 rfl) ?_
  refine lv_imul hx hb dX1_toMemory_26 ?_
  refine lw_top (y := nI (2 * b)) (pk_mul 2 b) ?_
  refine lv_iadd hx hb dX1_toMemory_27 ?_
  refine lw_top (y := nI ((32 * u) + (2 * b))) (nI_add (32 * u) (2 * b)) ?_
  refine lv_iload_n hx hb dX1_toMemory_28 rfl (lv_at hl 0 rfl) ?_
  refine lv_iadd hx hb dX1_toMemory_29 ?_
  refine lw_top (y := nI (((32 * u) + (2 * b)) + (0 + 1))) (nI_add ((32 * u) + (2 * b)) (0 + 1)) ?_
  refine m_l1 (n := ((32 * u) + (2 * b)) + (0 + 1)) hx hb hw (by omega) dX1_toMemory_30 ?_
  refine m_s2 (n := (2 * b) + (0 + 1)) (x := ((zA S 2 (upd (S.1 2) ((2 * b) + 0) (S.1 1 (((32 * u) + (2 * b)) + 0)))).1 1 (((32 * u) + (2 * b)) + (0 + 1)))) hx hb hw (by omega) dX1_toMemory_31 (fun H locs hw => ?_)
  refine lv_iinc (k := 0) (v := nI ((0 + 1) + 1)) (lv' := [(3, .int (nI ((0 + 1) + 1))), (0, .ref (o 0)), (1, .int (nI u)), (2, .int (nI b))]) hx hb dX1_toMemory_32 hl rfl (lw_inc (0 + 1) 1) (by decide) rfl (fun ls hl => ?_)
  refine lv_goto (tgt := 2) hx hb dX1_toMemory_35 (by decide) ?_
  refine lv_iload_n hx hb dX1_toMemory_2 rfl (lv_at hl 0 rfl) ?_
  refine lv_iconst (v := 2) hx hb dX1_toMemory_3 (by decide) ?_
  refine lv_icmp_ge (tgt := 38) hx hb dX1_toMemory_4 (by decide) (fun _ => ?_) (fun h9 => absurd (by decide) h9)
  exact m_retv hx hb hr hlocks hw (by simp [mTm, zA_zA, zA_s, zA_n]) dX1_toMemory_38
theorem cwm_toMemory {R : Room} {s : State} {args : Array Value} (hts : ∀ w ∈ GT, w.before args s = true) (hR : 0 + 1 ≤ R.frames ∧ 8 + (4 + 11) + 40 * 0 ≤ R.locals) : CallW R s args RX1 RX1 49 yX1_toMemory cX1_toMemory 4 none ((.code yX1_toMemory cX1_toMemory 4 none : Cond) :: GT) (rmD 0) 0 0 2 :=
  cwV 2 hts (show GoodIn GT (wsV RX1 49 RX1 yX1_toMemory ((.code yX1_toMemory cX1_toMemory 4 none : Cond) :: GT)) from lw_gin (lw_gin (lw_gin (lw_gin (lw_gin lw_self gw_220) gw_3) gw_302) gw_219) gw_218) rfl rfl rfl (by decide +kernel) hR
set_option maxRecDepth 100000 in
set_option maxHeartbeats 4000000 in
theorem cm_empty (l : Launch) (D : va_G) (o : Nat → Nat) (cA : ClassId) (S : SX) (u b : Nat) (hu : u < 4) (hbb : b < 16) : mMi l D o cA yX1_empty cX1_empty 4 (some .boolean) 1 [.ref (o 0), .int (nI u), .int (nI b)] S (mEm S u b) (bI (mDi (S.1 0 (16 * u + b)))) := by
  intro sz
  refine m_met (by decide) rfl (Nat.le_of_ble_eq_true rfl) ?_
  intro P0 e s m below meth c ls hsz hx hb hml hr hlocks hown hts hl hw
  subst hsz
  have hl : lv_has ls 4 [(0, .ref (o 0)), (1, .int (nI u)), (2, .int (nI b))] := hl
  refine lv_aload_n hx hb dX1_empty_0 rfl (lv_at hl 0 rfl) ?_
  refine lv_iload_n hx hb dX1_empty_1 rfl (lv_at hl 1 rfl) ?_
  refine lv_iload_n hx hb dX1_empty_2 rfl (lv_at hl 2 rfl) ?_
  refine m_ci (rest := []) ⟨hx, hb, hml, hown, hts⟩ (cm_stateOf l D o cA S u b (by omega) (by omega)) (cwm_stateOf hts ⟨by decide, by decide⟩) hw rfl hl.1 rfl (Nat.le_of_ble_eq_true rfl) dX1_empty_3 ⟨Nat.zero_le _, Nat.zero_le _⟩ (fun H locs hw => ?_)
  refine lv_iconst (v := 3) hx hb dX1_empty_6 (by decide) ?_
  refine lv_icmp_lt (tgt := 14) hx hb dX1_empty_7 (by decide) (fun g1 => ?_) (fun g1 => ?_)
  · refine lv_iconst (v := 0) hx hb dX1_empty_14 (by decide) ?_
    refine lv_istore_n (lv' := [(3, .int 0), (0, .ref (o 0)), (1, .int (nI u)), (2, .int (nI b))]) hx hb dX1_empty_15 rfl hl (by decide) rfl (fun ls hl => ?_)
    refine lv_iload_n hx hb dX1_empty_16 rfl (lv_at hl 0 rfl) ?_
    refine lv_if_eq (tgt := 33) hx hb dX1_empty_17 (by decide) (fun _ => ?_) (fun h9 => absurd (by decide) h9)
    refine lv_aload_n hx hb dX1_empty_33 rfl (lv_at hl 1 rfl) ?_
    refine lv_iload_n hx hb dX1_empty_34 rfl (lv_at hl 2 rfl) ?_
    refine lv_iload_n hx hb dX1_empty_35 rfl (lv_at hl 3 rfl) ?_
    refine lv_iconst (v := 0) hx hb dX1_empty_36 (by decide) ?_
    refine m_cv (rest := []) ⟨hx, hb, hml, hown, hts⟩ (cm_setState l D o cA S u b 0 (by omega) (by omega)) (cwm_setState hts ⟨by decide, by decide⟩) hw rfl hl.1 rfl (Nat.le_of_ble_eq_true rfl) dX1_empty_37 ⟨Nat.zero_le _, Nat.zero_le _⟩ (fun H locs hw => ?_)
    refine lv_iload_n hx hb dX1_empty_40 rfl (lv_at hl 0 rfl) ?_
    exact m_retz hx hb hr hlocks hw ⟨by simp [mDi, bI, g1], by simp [mEm, mEmT, mDi, g1]⟩ dX1_empty_41
  · refine lv_iconst (v := 1) hx hb dX1_empty_10 (by decide) ?_
    refine lv_goto (tgt := 15) hx hb dX1_empty_11 (by decide) ?_
    refine lv_istore_n (lv' := [(3, .int 1), (0, .ref (o 0)), (1, .int (nI u)), (2, .int (nI b))]) hx hb dX1_empty_15 rfl hl (by decide) rfl (fun ls hl => ?_)
    refine lv_iload_n hx hb dX1_empty_16 rfl (lv_at hl 0 rfl) ?_
    refine lv_if_eq (tgt := 33) hx hb dX1_empty_17 (by decide) (fun h9 => absurd h9 (by decide)) (fun _ => ?_)
    refine lv_aload_n hx hb dX1_empty_20 rfl (lv_at hl 1 rfl) ?_
    refine lv_iconst (v := 4) hx hb dX1_empty_21 (by decide) ?_
    refine lv_iload_n hx hb dX1_empty_22 rfl (lv_at hl 2 rfl) ?_
    refine lv_iload_n hx hb dX1_empty_23 rfl (lv_at hl 3 rfl) ?_
    refine m_cv (rest := []) ⟨hx, hb, hml, hown, hts⟩ (cm_transact l D o cA S 4 u b (by omega) (by omega) (by omega)) (cwm_transact hts ⟨by decide, by decide⟩) hw rfl hl.1 rfl (Nat.le_of_ble_eq_true rfl) dX1_empty_24 ⟨Nat.zero_le _, Nat.zero_le _⟩ (fun H locs hw => ?_)
    refine lv_aload_n hx hb dX1_empty_27 rfl (lv_at hl 1 rfl) ?_
    refine lv_iload_n hx hb dX1_empty_28 rfl (lv_at hl 2 rfl) ?_
    refine lv_iload_n hx hb dX1_empty_29 rfl (lv_at hl 3 rfl) ?_
    refine m_cv (rest := []) ⟨hx, hb, hml, hown, hts⟩ (cm_toMemory l D o cA (mTr S 4 u b) u b (by omega) (by omega)) (cwm_toMemory hts ⟨by decide, by decide⟩) hw rfl hl.1 rfl (Nat.le_of_ble_eq_true rfl) dX1_empty_30 ⟨Nat.zero_le _, Nat.zero_le _⟩ (fun H locs hw => ?_)
    refine lv_aload_n hx hb dX1_empty_33 rfl (lv_at hl 1 rfl) ?_
    refine lv_iload_n hx hb dX1_empty_34 rfl (lv_at hl 2 rfl) ?_
    refine lv_iload_n hx hb dX1_empty_35 rfl (lv_at hl 3 rfl) ?_
    refine lv_iconst (v := 0) hx hb dX1_empty_36 (by decide) ?_
    refine m_cv (rest := []) ⟨hx, hb, hml, hown, hts⟩ (cm_setState l D o cA (mTm (mTr S 4 u b) u b) u b 0 (by omega) (by omega)) (cwm_setState hts ⟨by decide, by decide⟩) hw rfl hl.1 rfl (Nat.le_of_ble_eq_true rfl) dX1_empty_37 ⟨Nat.zero_le _, Nat.zero_le _⟩ (fun H locs hw => ?_)
    refine lv_iload_n hx hb dX1_empty_40 rfl (lv_at hl 0 rfl) ?_
    exact m_retz hx hb hr hlocks hw ⟨by simp [mDi, bI, g1], by simp [mEm, mEmT, mDi, g1]⟩ dX1_empty_41
theorem cwm_empty {R : Room} {s : State} {args : Array Value} (hts : ∀ w ∈ GT, w.before args s = true) (hR : 1 + 1 ≤ R.frames ∧ 8 + (4 + 11) + 40 * 1 ≤ R.locals) : CallW R s args RX1 RX1 56 yX1_empty cX1_empty 4 (some .boolean) ((.code yX1_empty cX1_empty 4 (some .boolean) : Cond) :: GT) (rmD 1) 0 0 2 :=
  cwV 2 hts (show GoodIn GT (wsV RX1 56 RX1 yX1_empty ((.code yX1_empty cX1_empty 4 (some .boolean) : Cond) :: GT)) from lw_gin (lw_gin (lw_gin (lw_gin (lw_gin lw_self gw_214) gw_3) gw_300) gw_213) gw_212) rfl rfl rfl (by decide +kernel) hR
set_option maxRecDepth 100000 in
set_option maxHeartbeats 4000000 in
theorem cm_others (l : Launch) (D : va_G) (o : Nat → Nat) (cA : ClassId) (S : SX) (u b : Nat) (hu : u < 4) (hbb : b < 16) : mMi l D o cA yX1_others cX1_others 5 (some .int) 1 [.ref (o 0), .int (nI u), .int (nI b)] S (S) (nI (mOtF S u b 4 0 0)) := by
  intro sz
  refine m_met (by decide) rfl (Nat.le_of_ble_eq_true rfl) ?_
  intro P0 e s m below meth c ls hsz hx hb hml hr hlocks hown hts hl hw
  subst hsz
  have hl : lv_has ls 5 [(0, .ref (o 0)), (1, .int (nI u)), (2, .int (nI b))] := hl
  have loop : ∀ (n k : Nat), n + k = 4 → ∀ (t : Nat) (H : Heap) (locs : List Loc) (ls : Array Slot), lv_has ls 5 [(4, .int (nI k)), (3, .int (nI t)), (0, .ref (o 0)), (1, .int (nI u)), (2, .int (nI b))] → mW D o cA (mA o s.heap.size) s s.heap S H locs → mOtF S u b n k t = mOtF S u b 4 0 0 → W P0 l e (rmD 1) s m ([.ref (o 0), .int (nI u), .int (nI b)]).toArray below meth c H locs 0 0 (MQ below (mQi D o cA s.heap.size (S) (nI (mOtF S u b 4 0 0))) ([.ref (o 0), .int (nI u), .int (nI b)]).toArray s 0 0 (mA o s.heap.size)) (F0 m 5 ls []) := by
    intro n
    induction n with
    | zero =>
      intro k hk t H locs ls hl hw hf
      obtain rfl : k = 4 := by omega
      refine lv_iload hx hb dX1_others_5 (lv_at hl 0 rfl) ?_
      refine lv_iconst (v := 4) hx hb dX1_others_7 (by decide) ?_
      refine lv_icmp_ge (tgt := 36) hx hb dX1_others_8 (by decide) (fun _ => ?_) (fun h9 => absurd (by decide) h9)
      refine lv_iload_n hx hb dX1_others_36 rfl (lv_at hl 1 rfl) ?_
      exact m_reti hx hb hr hlocks hw ⟨by rw [← hf]; rfl, rfl⟩ dX1_others_37
    | succ n ih =>
      intro k hk t H locs ls hl hw hf
      refine lv_iload hx hb dX1_others_5 (lv_at hl 0 rfl) ?_
      refine lv_iconst (v := 4) hx hb dX1_others_7 (by decide) ?_
      refine lv_icmp_ge (tgt := 36) hx hb dX1_others_8 (by decide) (fun h9 => absurd h9 (nI_ge (a := k) (b := 4) (by omega) (by decide))) (fun _ => ?_)
      refine lv_iload hx hb dX1_others_11 (lv_at hl 0 rfl) ?_
      refine lv_iload_n hx hb dX1_others_13 rfl (lv_at hl 3 rfl) ?_
      refine lv_icmp_eq (tgt := 30) hx hb dX1_others_14 (by decide) (fun g1 => ?_) (fun g1 => ?_)
      · have g1 : k = u := (nI_eq (a := k) (b := u) (by omega) (by omega)).mp g1
        refine lv_iinc (k := 0) (v := nI (k + 1)) (lv' := [(4, .int (nI (k + 1))), (3, .int (nI t)), (0, .ref (o 0)), (1, .int (nI u)), (2, .int (nI b))]) hx hb dX1_others_30 hl rfl (lw_inc k 1) (by decide) rfl (fun ls hl => ?_)
        refine lv_goto (tgt := 5) hx hb dX1_others_33 (by decide) ?_
        exact ih (k + 1) (by omega) _ _ _ _ (lv_sub hl [0, 1, 2, 3, 4] rfl) hw (by rw [← hf]; simp [mOtF, g1])
      · have g1 : ¬ k = u := fun h9 => g1 ((nI_eq (a := k) (b := u) (by omega) (by omega)).mpr h9)
        refine lv_aload_n hx hb dX1_others_17 rfl (lv_at hl 2 rfl) ?_
        refine lv_iload hx hb dX1_others_18 (lv_at hl 0 rfl) ?_
        refine lv_iload_n hx hb dX1_others_20 rfl (lv_at hl 4 rfl) ?_
        refine m_ci (rest := []) ⟨hx, hb, hml, hown, hts⟩ (cm_stateOf l D o cA S k b (by omega) (by omega)) (cwm_stateOf hts ⟨by decide, by decide⟩) hw rfl hl.1 rfl (Nat.le_of_ble_eq_true rfl) dX1_others_21 ⟨Nat.zero_le _, Nat.zero_le _⟩ (fun H locs hw => ?_)
        refine lv_if_le (tgt := 30) hx hb dX1_others_24 (by decide) (fun g2 => ?_) (fun g2 => ?_)
        · refine lv_iinc (k := 0) (v := nI (k + 1)) (lv' := [(4, .int (nI (k + 1))), (3, .int (nI t)), (0, .ref (o 0)), (1, .int (nI u)), (2, .int (nI b))]) hx hb dX1_others_30 hl rfl (lw_inc k 1) (by decide) rfl (fun ls hl => ?_)
          refine lv_goto (tgt := 5) hx hb dX1_others_33 (by decide) ?_
          exact ih (k + 1) (by omega) _ _ _ _ (lv_sub hl [0, 1, 2, 3, 4] rfl) hw (by rw [← hf]; simp [mOtF, g1, g2])
        · refine lv_iinc (k := 1) (v := nI (t + 1)) (lv' := [(3, .int (nI (t + 1))), (4, .int (nI k)), (0, .ref (o 0)), (1, .int (nI u)), (2, .int (nI b))]) hx hb dX1_others_27 hl rfl (lw_inc t 1) (by decide) rfl (fun ls hl => ?_)
          refine lv_iinc (k := 1) (v := nI (k + 1)) (lv' := [(4, .int (nI (k + 1))), (3, .int (nI (t + 1))), (0, .ref (o 0)), (1, .int (nI u)), (2, .int (nI b))]) hx hb dX1_others_30 hl rfl (lw_inc k 1) (by decide) rfl (fun ls hl => ?_)
          refine lv_goto (tgt := 5) hx hb dX1_others_33 (by decide) ?_
          exact ih (k + 1) (by omega) _ _ _ _ (lv_sub hl [0, 1, 2, 3, 4] rfl) hw (by rw [← hf]; simp [mOtF, g1, g2])
  refine lv_iconst (v := 0) hx hb dX1_others_0 (by decide) ?_
  refine lv_istore_n (lv' := [(3, .int 0), (0, .ref (o 0)), (1, .int (nI u)), (2, .int (nI b))]) hx hb dX1_others_1 rfl hl (by decide) rfl (fun ls hl => ?_)
  refine lv_iconst (v := 0) hx hb dX1_others_2 (by decide) ?_
  refine lv_istore (lv' := [(4, .int 0), (3, .int 0), (0, .ref (o 0)), (1, .int (nI u)), (2, .int (nI b))]) hx hb dX1_others_3 hl (by decide) rfl (fun ls hl => ?_)
  exact loop 4 0 rfl 0 _ _ _ (lv_sub hl [0, 1, 2, 3, 4] rfl) hw rfl
theorem cwm_others {R : Room} {s : State} {args : Array Value} (hts : ∀ w ∈ GT, w.before args s = true) (hR : 1 + 1 ≤ R.frames ∧ 8 + (5 + 11) + 40 * 1 ≤ R.locals) : CallW R s args RX1 RX1 67 yX1_others cX1_others 5 (some .int) ((.code yX1_others cX1_others 5 (some .int) : Cond) :: GT) (rmD 1) 0 0 2 :=
  cwV 2 hts (show GoodIn GT (wsV RX1 67 RX1 yX1_others ((.code yX1_others cX1_others 5 (some .int) : Cond) :: GT)) from lw_gin (lw_gin (lw_gin (lw_gin (lw_gin lw_self gw_232) gw_3) gw_306) gw_231) gw_230) rfl rfl rfl (by decide +kernel) hR
set_option maxRecDepth 100000 in
set_option maxHeartbeats 4000000 in
theorem cm_dirtyHolder (l : Launch) (D : va_G) (o : Nat → Nat) (cA : ClassId) (S : SX) (b : Nat) (hbb : b < 16) : mMi l D o cA yX1_dirtyHolder cX1_dirtyHolder 3 (some .int) 1 [.ref (o 0), .int (nI b)] S (S) (mDhF S b 4 0) := by
  intro sz
  refine m_met (by decide) rfl (Nat.le_of_ble_eq_true rfl) ?_
  intro P0 e s m below meth c ls hsz hx hb hml hr hlocks hown hts hl hw
  subst hsz
  have hl : lv_has ls 3 [(0, .ref (o 0)), (1, .int (nI b))] := hl
  have loop : ∀ (n k : Nat), n + k = 4 → ∀  (H : Heap) (locs : List Loc) (ls : Array Slot), lv_has ls 3 [(2, .int (nI k)), (0, .ref (o 0)), (1, .int (nI b))] → mW D o cA (mA o s.heap.size) s s.heap S H locs → mDhF S b n k = mDhF S b 4 0 → W P0 l e (rmD 1) s m ([.ref (o 0), .int (nI b)]).toArray below meth c H locs 0 0 (MQ below (mQi D o cA s.heap.size (S) (mDhF S b 4 0)) ([.ref (o 0), .int (nI b)]).toArray s 0 0 (mA o s.heap.size)) (F0 m 2 ls []) := by
    intro n
    induction n with
    | zero =>
      intro k hk H locs ls hl hw hf
      obtain rfl : k = 4 := by omega
      refine lv_iload_n hx hb dX1_dirtyHolder_2 rfl (lv_at hl 0 rfl) ?_
      refine lv_iconst (v := 4) hx hb dX1_dirtyHolder_3 (by decide) ?_
      refine lv_icmp_ge (tgt := 25) hx hb dX1_dirtyHolder_4 (by decide) (fun _ => ?_) (fun h9 => absurd (by decide) h9)
      refine lv_iconst (v := -1) hx hb dX1_dirtyHolder_25 (by decide) ?_
      exact m_reti hx hb hr hlocks hw ⟨by rw [← hf]; rfl, rfl⟩ dX1_dirtyHolder_26
    | succ n ih =>
      intro k hk H locs ls hl hw hf
      refine lv_iload_n hx hb dX1_dirtyHolder_2 rfl (lv_at hl 0 rfl) ?_
      refine lv_iconst (v := 4) hx hb dX1_dirtyHolder_3 (by decide) ?_
      refine lv_icmp_ge (tgt := 25) hx hb dX1_dirtyHolder_4 (by decide) (fun h9 => absurd h9 (nI_ge (a := k) (b := 4) (by omega) (by decide))) (fun _ => ?_)
      refine lv_aload_n hx hb dX1_dirtyHolder_7 rfl (lv_at hl 1 rfl) ?_
      refine lv_iload_n hx hb dX1_dirtyHolder_8 rfl (lv_at hl 0 rfl) ?_
      refine lv_iload_n hx hb dX1_dirtyHolder_9 rfl (lv_at hl 2 rfl) ?_
      refine m_ci (rest := []) ⟨hx, hb, hml, hown, hts⟩ (cm_stateOf l D o cA S k b (by omega) (by omega)) (cwm_stateOf hts ⟨by decide, by decide⟩) hw rfl hl.1 rfl (Nat.le_of_ble_eq_true rfl) dX1_dirtyHolder_10 ⟨Nat.zero_le _, Nat.zero_le _⟩ (fun H locs hw => ?_)
      refine lv_iconst (v := 3) hx hb dX1_dirtyHolder_13 (by decide) ?_
      refine lv_icmp_lt (tgt := 19) hx hb dX1_dirtyHolder_14 (by decide) (fun g1 => ?_) (fun g1 => ?_)
      · refine lv_iinc (k := 0) (v := nI (k + 1)) (lv' := [(2, .int (nI (k + 1))), (0, .ref (o 0)), (1, .int (nI b))]) hx hb dX1_dirtyHolder_19 hl rfl (lw_inc k 1) (by decide) rfl (fun ls hl => ?_)
        refine lv_goto (tgt := 2) hx hb dX1_dirtyHolder_22 (by decide) ?_
        exact ih (k + 1) (by omega) _ _ _ (lv_sub hl [0, 1, 2] rfl) hw (by rw [← hf]; simp [mDhF, mDi, g1])
      · refine lv_iload_n hx hb dX1_dirtyHolder_17 rfl (lv_at hl 0 rfl) ?_
        exact m_reti hx hb hr hlocks hw ⟨by rw [← hf]; simp [mDhF, mDi, g1], rfl⟩ dX1_dirtyHolder_18
  refine lv_iconst (v := 0) hx hb dX1_dirtyHolder_0 (by decide) ?_
  refine lv_istore_n (lv' := [(2, .int 0), (0, .ref (o 0)), (1, .int (nI b))]) hx hb dX1_dirtyHolder_1 rfl hl (by decide) rfl (fun ls hl => ?_)
  exact loop 4 0 rfl _ _ _ (lv_sub hl [0, 1, 2] rfl) hw rfl
theorem cwm_dirtyHolder {R : Room} {s : State} {args : Array Value} (hts : ∀ w ∈ GT, w.before args s = true) (hR : 1 + 1 ≤ R.frames ∧ 8 + (3 + 11) + 40 * 1 ≤ R.locals) : CallW R s args RX1 RX1 60 yX1_dirtyHolder cX1_dirtyHolder 3 (some .int) ((.code yX1_dirtyHolder cX1_dirtyHolder 3 (some .int) : Cond) :: GT) (rmD 1) 0 0 1 :=
  cwV 1 hts (show GoodIn GT (wsV RX1 60 RX1 yX1_dirtyHolder ((.code yX1_dirtyHolder cX1_dirtyHolder 3 (some .int) : Cond) :: GT)) from lw_gin (lw_gin (lw_gin (lw_gin (lw_gin lw_self gw_226) gw_3) gw_304) gw_225) gw_224) rfl rfl rfl (by decide +kernel) hR
set_option maxRecDepth 100000 in
set_option maxHeartbeats 4000000 in
theorem cm_emptyOthers (l : Launch) (D : va_G) (o : Nat → Nat) (cA : ClassId) (S : SX) (u b : Nat) (hu : u < 4) (hbb : b < 16) : mMv l D o cA yX1_emptyOthers cX1_emptyOthers 4 1 [.ref (o 0), .int (nI u), .int (nI b)] S (mEoF u b 4 0 S) := by
  intro sz
  refine m_met (by decide) rfl (Nat.le_of_ble_eq_true rfl) ?_
  intro P0 e s m below meth c ls hsz hx hb hml hr hlocks hown hts hl hw
  subst hsz
  have hl : lv_has ls 4 [(0, .ref (o 0)), (1, .int (nI u)), (2, .int (nI b))] := hl
  have loop : ∀ (n k : Nat), n + k = 4 → ∀ (S' : SX) (H : Heap) (locs : List Loc) (ls : Array Slot), lv_has ls 4 [(3, .int (nI k)), (0, .ref (o 0)), (1, .int (nI u)), (2, .int (nI b))] → mW D o cA (mA o s.heap.size) s s.heap S' H locs → mEoF u b n k S' = mEoF u b 4 0 S → W P0 l e (rmD 1) s m ([.ref (o 0), .int (nI u), .int (nI b)]).toArray below meth c H locs 0 0 (MQ below (mQv D o cA s.heap.size (mEoF u b 4 0 S)) ([.ref (o 0), .int (nI u), .int (nI b)]).toArray s 0 0 (mA o s.heap.size)) (F0 m 2 ls []) := by
    intro n
    induction n with
    | zero =>
      intro k hk S' H locs ls hl hw hf
      obtain rfl : k = 4 := by omega
      refine lv_iload_n hx hb dX1_emptyOthers_2 rfl (lv_at hl 0 rfl) ?_
      refine lv_iconst (v := 4) hx hb dX1_emptyOthers_3 (by decide) ?_
      refine lv_icmp_ge (tgt := 25) hx hb dX1_emptyOthers_4 (by decide) (fun _ => ?_) (fun h9 => absurd (by decide) h9)
      exact m_retv hx hb hr hlocks hw (by rw [← hf]; rfl) dX1_emptyOthers_25
    | succ n ih =>
      intro k hk S' H locs ls hl hw hf
      refine lv_iload_n hx hb dX1_emptyOthers_2 rfl (lv_at hl 0 rfl) ?_
      refine lv_iconst (v := 4) hx hb dX1_emptyOthers_3 (by decide) ?_
      refine lv_icmp_ge (tgt := 25) hx hb dX1_emptyOthers_4 (by decide) (fun h9 => absurd h9 (nI_ge (a := k) (b := 4) (by omega) (by decide))) (fun _ => ?_)
      refine lv_iload_n hx hb dX1_emptyOthers_7 rfl (lv_at hl 0 rfl) ?_
      refine lv_iload_n hx hb dX1_emptyOthers_8 rfl (lv_at hl 2 rfl) ?_
      refine lv_icmp_eq (tgt := 19) hx hb dX1_emptyOthers_9 (by decide) (fun g1 => ?_) (fun g1 => ?_)
      · have g1 : k = u := (nI_eq (a := k) (b := u) (by omega) (by omega)).mp g1
        refine lv_iinc (k := 0) (v := nI (k + 1)) (lv' := [(3, .int (nI (k + 1))), (0, .ref (o 0)), (1, .int (nI u)), (2, .int (nI b))]) hx hb dX1_emptyOthers_19 hl rfl (lw_inc k 1) (by decide) rfl (fun ls hl => ?_)
        refine lv_goto (tgt := 2) hx hb dX1_emptyOthers_22 (by decide) ?_
        exact ih (k + 1) (by omega) _ _ _ _ (lv_sub hl [0, 1, 2, 3] rfl) hw (by rw [← hf]; simp [mEoF, g1])
      · have g1 : ¬ k = u := fun h9 => g1 ((nI_eq (a := k) (b := u) (by omega) (by omega)).mpr h9)
        refine lv_aload_n hx hb dX1_emptyOthers_12 rfl (lv_at hl 1 rfl) ?_
        refine lv_iload_n hx hb dX1_emptyOthers_13 rfl (lv_at hl 0 rfl) ?_
        refine lv_iload_n hx hb dX1_emptyOthers_14 rfl (lv_at hl 3 rfl) ?_
        refine lv_iconst (v := 0) hx hb dX1_emptyOthers_15 (by decide) ?_
        refine m_cv (rest := []) ⟨hx, hb, hml, hown, hts⟩ (cm_setState l D o cA S' k b 0 (by omega) (by omega)) (cwm_setState hts ⟨by decide, by decide⟩) hw rfl hl.1 rfl (Nat.le_of_ble_eq_true rfl) dX1_emptyOthers_16 ⟨Nat.zero_le _, Nat.zero_le _⟩ (fun H locs hw => ?_)
        refine lv_iinc (k := 0) (v := nI (k + 1)) (lv' := [(3, .int (nI (k + 1))), (0, .ref (o 0)), (1, .int (nI u)), (2, .int (nI b))]) hx hb dX1_emptyOthers_19 hl rfl (lw_inc k 1) (by decide) rfl (fun ls hl => ?_)
        refine lv_goto (tgt := 2) hx hb dX1_emptyOthers_22 (by decide) ?_
        exact ih (k + 1) (by omega) _ _ _ _ (lv_sub hl [0, 1, 2, 3] rfl) hw (by rw [← hf]; simp [mEoF, g1])
  refine lv_iconst (v := 0) hx hb dX1_emptyOthers_0 (by decide) ?_
  refine lv_istore_n (lv' := [(3, .int 0), (0, .ref (o 0)), (1, .int (nI u)), (2, .int (nI b))]) hx hb dX1_emptyOthers_1 rfl hl (by decide) rfl (fun ls hl => ?_)
  exact loop 4 0 rfl _ _ _ _ (lv_sub hl [0, 1, 2, 3] rfl) hw rfl
theorem cwm_emptyOthers {R : Room} {s : State} {args : Array Value} (hts : ∀ w ∈ GT, w.before args s = true) (hR : 1 + 1 ≤ R.frames ∧ 8 + (4 + 11) + 40 * 1 ≤ R.locals) : CallW R s args RX1 RX1 64 yX1_emptyOthers cX1_emptyOthers 4 none ((.code yX1_emptyOthers cX1_emptyOthers 4 none : Cond) :: GT) (rmD 1) 0 0 2 :=
  cwV 2 hts (show GoodIn GT (wsV RX1 64 RX1 yX1_emptyOthers ((.code yX1_emptyOthers cX1_emptyOthers 4 none : Cond) :: GT)) from lw_gin (lw_gin (lw_gin (lw_gin (lw_gin lw_self gw_229) gw_3) gw_305) gw_228) gw_227) rfl rfl rfl (by decide +kernel) hR
set_option maxRecDepth 100000 in
set_option maxHeartbeats 4000000 in
theorem cm_load (l : Launch) (D : va_G) (o : Nat → Nat) (cA : ClassId) (S : SX) (u b k : Nat) (hu : u < 4) (hbb : b < 16) (hk : k < 2) : mMv l D o cA yX1_load cX1_load 9 2 [.ref (o 0), .int (nI u), .int (nI b), .int (nI k)] S (mLo S u b k) := by
  intro sz
  refine m_met (by decide) rfl (Nat.le_of_ble_eq_true rfl) ?_
  intro P0 e s m below meth c ls hsz hx hb hml hr hlocks hown hts hl hw
  subst hsz
  have hl : lv_has ls 9 [(0, .ref (o 0)), (1, .int (nI u)), (2, .int (nI b)), (3, .int (nI k))] := hl
  have loop : ∀ (al : Bool) (n k' : Nat), n + k' = 4 → ∀ (V : SX) (H : Heap) (locs : List Loc) (ls : Array Slot), lv_has ls 9 [(7, .int (nI k')), (6, .int (bI al)), (0, .ref (o 0)), (1, .int (nI u)), (2, .int (nI b))] → mW D o cA (mA o s.heap.size) s s.heap V H locs → mLoE al (mRlF u b n k' V) u b = mLo S u b k → W P0 l e (rmD 2) s m ([.ref (o 0), .int (nI u), .int (nI b), .int (nI k)]).toArray below meth c H locs 0 0 (MQ below (mQv D o cA s.heap.size (mLo S u b k)) ([.ref (o 0), .int (nI u), .int (nI b), .int (nI k)]).toArray s 0 0 (mA o s.heap.size)) (F0 m 175 ls []) := by
    intro al n
    induction n with
    | zero =>
      intro k' hk' V H locs ls hl hw hf
      obtain rfl : k' = 4 := by omega
      refine lv_iload hx hb dX1_load_175 (lv_at hl 0 rfl) ?_
      refine lv_iconst (v := 4) hx hb dX1_load_177 (by decide) ?_
      refine lv_icmp_ge (tgt := 260) hx hb dX1_load_178 (by decide) (fun _ => ?_) (fun h9 => absurd (by decide) h9)
      refine lv_aload_n hx hb dX1_load_260 rfl (lv_at hl 2 rfl) ?_
      refine lv_iload_n hx hb dX1_load_261 rfl (lv_at hl 3 rfl) ?_
      refine lv_iload_n hx hb dX1_load_262 rfl (lv_at hl 4 rfl) ?_
      refine lv_aload_n hx hb dX1_load_263 rfl (lv_at hl 2 rfl) ?_
      refine m_f0 hx hb hts hown hw dX1_load_264 ?_
      refine lv_if_le (tgt := 279) hx hb dX1_load_267 (by decide) (fun g1 => ?_) (fun g1 => ?_)
      · refine lv_iconst (v := 1) hx hb dX1_load_279 (by decide) ?_
        refine m_cv (rest := []) ⟨hx, hb, hml, hown, hts⟩ (cm_setState l D o cA V u b 1 (by omega) (by omega)) (cwm_setState hts ⟨by decide, by decide⟩) hw rfl hl.1 rfl (Nat.le_of_ble_eq_true rfl) dX1_load_280 ⟨Nat.zero_le _, Nat.zero_le _⟩ (fun H locs hw => ?_)
        exact m_retv hx hb hr hlocks hw (by rw [← hf]; simp [mRlF, mLoE, g1]) dX1_load_283
      · refine lv_iload hx hb dX1_load_270 (lv_at hl 1 rfl) ?_
        refine lv_if_eq (tgt := 279) hx hb dX1_load_272 (by decide) (fun g2 => ?_) (fun g2 => ?_)
        · have g2 := bI_z.mp g2
          refine lv_iconst (v := 1) hx hb dX1_load_279 (by decide) ?_
          refine m_cv (rest := []) ⟨hx, hb, hml, hown, hts⟩ (cm_setState l D o cA V u b 1 (by omega) (by omega)) (cwm_setState hts ⟨by decide, by decide⟩) hw rfl hl.1 rfl (Nat.le_of_ble_eq_true rfl) dX1_load_280 ⟨Nat.zero_le _, Nat.zero_le _⟩ (fun H locs hw => ?_)
          exact m_retv hx hb hr hlocks hw (by rw [← hf]; simp [mRlF, mLoE, g1, g2]) dX1_load_283
        · have g2 := bI_n.mp g2
          refine lv_iconst (v := 2) hx hb dX1_load_275 (by decide) ?_
          refine lv_goto (tgt := 280) hx hb dX1_load_276 (by decide) ?_
          refine m_cv (rest := []) ⟨hx, hb, hml, hown, hts⟩ (cm_setState l D o cA V u b 2 (by omega) (by omega)) (cwm_setState hts ⟨by decide, by decide⟩) hw rfl hl.1 rfl (Nat.le_of_ble_eq_true rfl) dX1_load_280 ⟨Nat.zero_le _, Nat.zero_le _⟩ (fun H locs hw => ?_)
          exact m_retv hx hb hr hlocks hw (by rw [← hf]; simp [mRlF, mLoE, g1, g2]) dX1_load_283
    | succ n ih =>
      intro k' hk' V H locs ls hl hw hf
      refine lv_iload hx hb dX1_load_175 (lv_at hl 0 rfl) ?_
      refine lv_iconst (v := 4) hx hb dX1_load_177 (by decide) ?_
      refine lv_icmp_ge (tgt := 260) hx hb dX1_load_178 (by decide) (fun h9 => absurd h9 (nI_ge (a := k') (b := 4) (by omega) (by decide))) (fun _ => ?_)
      refine lv_aload_n hx hb dX1_load_181 rfl (lv_at hl 2 rfl) ?_
      refine lv_iload hx hb dX1_load_182 (lv_at hl 0 rfl) ?_
      refine lv_iload_n hx hb dX1_load_184 rfl (lv_at hl 4 rfl) ?_
      refine m_ci (rest := []) ⟨hx, hb, hml, hown, hts⟩ (cm_stateOf l D o cA V k' b (by omega) (by omega)) (cwm_stateOf hts ⟨by decide, by decide⟩) hw rfl hl.1 rfl (Nat.le_of_ble_eq_true rfl) dX1_load_185 ⟨Nat.zero_le _, Nat.zero_le _⟩ (fun H locs hw => ?_)
      refine lv_istore (lv' := [(8, .int (V.1 0 (16 * k' + b))), (7, .int (nI k')), (6, .int (bI al)), (0, .ref (o 0)), (1, .int (nI u)), (2, .int (nI b))]) hx hb dX1_load_188 hl (by decide) rfl (fun ls hl => ?_)
      refine lv_iload hx hb dX1_load_190 (lv_at hl 1 rfl) ?_
      refine lv_iload_n hx hb dX1_load_192 rfl (lv_at hl 4 rfl) ?_
      refine lv_icmp_eq (tgt := 254) hx hb dX1_load_193 (by decide) (fun g3 => ?_) (fun g3 => ?_)
      · have g3 : k' = u := (nI_eq (a := k') (b := u) (by omega) (by omega)).mp g3
        refine lv_iinc (k := 1) (v := nI (k' + 1)) (lv' := [(7, .int (nI (k' + 1))), (8, .int (V.1 0 (16 * k' + b))), (6, .int (bI al)), (0, .ref (o 0)), (1, .int (nI u)), (2, .int (nI b))]) hx hb dX1_load_254 hl rfl (lw_inc k' 1) (by decide) rfl (fun ls hl => ?_)
        refine lv_goto (tgt := 175) hx hb dX1_load_257 (by decide) ?_
        exact ih (k' + 1) (by omega) _ _ _ _ (lv_sub hl [0, 2, 3, 4, 5] rfl) hw (by rw [← hf]; simp [mRlF, mRl1, g3])
      · have g3 : ¬ k' = u := fun h9 => g3 ((nI_eq (a := k') (b := u) (by omega) (by omega)).mpr h9)
        refine lv_iload hx hb dX1_load_196 (lv_at hl 0 rfl) ?_
        refine lv_if_ne (tgt := 204) hx hb dX1_load_198 (by decide) (fun g4 => ?_) (fun g4 => ?_)
        · refine lv_aload_n hx hb dX1_load_204 rfl (lv_at hl 3 rfl) ?_
          refine m_f0 hx hb hts hown hw dX1_load_205 ?_
          refine lv_iconst (v := 2) hx hb dX1_load_208 (by decide) ?_
          refine lv_icmp_ge (tgt := 223) hx hb dX1_load_209 (by decide) (fun g5 => ?_) (fun g5 => ?_)
          · refine lv_iload hx hb dX1_load_223 (lv_at hl 0 rfl) ?_
            refine lv_iconst (v := 4) hx hb dX1_load_225 (by decide) ?_
            refine lv_icmp_ne (tgt := 240) hx hb dX1_load_226 (by decide) (fun g6 => ?_) (fun g6 => ?_)
            · refine lv_iload hx hb dX1_load_240 (lv_at hl 0 rfl) ?_
              refine lv_iconst (v := 2) hx hb dX1_load_242 (by decide) ?_
              refine lv_icmp_ne (tgt := 254) hx hb dX1_load_243 (by decide) (fun g7 => ?_) (fun g7 => ?_)
              · refine lv_iinc (k := 1) (v := nI (k' + 1)) (lv' := [(7, .int (nI (k' + 1))), (8, .int (V.1 0 (16 * k' + b))), (6, .int (bI al)), (0, .ref (o 0)), (1, .int (nI u)), (2, .int (nI b))]) hx hb dX1_load_254 hl rfl (lw_inc k' 1) (by decide) rfl (fun ls hl => ?_)
                refine lv_goto (tgt := 175) hx hb dX1_load_257 (by decide) ?_
                exact ih (k' + 1) (by omega) _ _ _ _ (lv_sub hl [0, 2, 3, 4, 5] rfl) hw (by rw [← hf]; simp [mRlF, mRl1, g3, g4, g5, g6, g7])
              · refine lv_aload_n hx hb dX1_load_246 rfl (lv_at hl 3 rfl) ?_
                refine lv_iload hx hb dX1_load_247 (lv_at hl 1 rfl) ?_
                refine lv_iload_n hx hb dX1_load_249 rfl (lv_at hl 5 rfl) ?_
                refine lv_iconst (v := 1) hx hb dX1_load_250 (by decide) ?_
                refine m_cv (rest := []) ⟨hx, hb, hml, hown, hts⟩ (cm_setState l D o cA V k' b 1 (by omega) (by omega)) (cwm_setState hts ⟨by decide, by decide⟩) hw rfl hl.1 rfl (Nat.le_of_ble_eq_true rfl) dX1_load_251 ⟨Nat.zero_le _, Nat.zero_le _⟩ (fun H locs hw => ?_)
                refine lv_iinc (k := 1) (v := nI (k' + 1)) (lv' := [(7, .int (nI (k' + 1))), (8, .int (V.1 0 (16 * k' + b))), (6, .int (bI al)), (0, .ref (o 0)), (1, .int (nI u)), (2, .int (nI b))]) hx hb dX1_load_254 hl rfl (lw_inc k' 1) (by decide) rfl (fun ls hl => ?_)
                refine lv_goto (tgt := 175) hx hb dX1_load_257 (by decide) ?_
                exact ih (k' + 1) (by omega) _ _ _ _ (lv_sub hl [0, 2, 3, 4, 5] rfl) hw (by rw [← hf]; simp [mRlF, mRl1, g3, g4, g5, g6, g7])
            · refine lv_aload_n hx hb dX1_load_229 rfl (lv_at hl 3 rfl) ?_
              refine lv_iload hx hb dX1_load_230 (lv_at hl 1 rfl) ?_
              refine lv_iload_n hx hb dX1_load_232 rfl (lv_at hl 5 rfl) ?_
              refine lv_iconst (v := 3) hx hb dX1_load_233 (by decide) ?_
              refine m_cv (rest := []) ⟨hx, hb, hml, hown, hts⟩ (cm_setState l D o cA V k' b 3 (by omega) (by omega)) (cwm_setState hts ⟨by decide, by decide⟩) hw rfl hl.1 rfl (Nat.le_of_ble_eq_true rfl) dX1_load_234 ⟨Nat.zero_le _, Nat.zero_le _⟩ (fun H locs hw => ?_)
              refine lv_goto (tgt := 254) hx hb dX1_load_237 (by decide) ?_
              refine lv_iinc (k := 1) (v := nI (k' + 1)) (lv' := [(7, .int (nI (k' + 1))), (8, .int (V.1 0 (16 * k' + b))), (6, .int (bI al)), (0, .ref (o 0)), (1, .int (nI u)), (2, .int (nI b))]) hx hb dX1_load_254 hl rfl (lw_inc k' 1) (by decide) rfl (fun ls hl => ?_)
              refine lv_goto (tgt := 175) hx hb dX1_load_257 (by decide) ?_
              exact ih (k' + 1) (by omega) _ _ _ _ (lv_sub hl [0, 2, 3, 4, 5] rfl) hw (by rw [← hf]; simp [mRlF, mRl1, g3, g4, g5, g6])
          · refine lv_aload_n hx hb dX1_load_212 rfl (lv_at hl 3 rfl) ?_
            refine lv_iload hx hb dX1_load_213 (lv_at hl 1 rfl) ?_
            refine lv_iload_n hx hb dX1_load_215 rfl (lv_at hl 5 rfl) ?_
            refine lv_iconst (v := 1) hx hb dX1_load_216 (by decide) ?_
            refine m_cv (rest := []) ⟨hx, hb, hml, hown, hts⟩ (cm_setState l D o cA V k' b 1 (by omega) (by omega)) (cwm_setState hts ⟨by decide, by decide⟩) hw rfl hl.1 rfl (Nat.le_of_ble_eq_true rfl) dX1_load_217 ⟨Nat.zero_le _, Nat.zero_le _⟩ (fun H locs hw => ?_)
            refine lv_goto (tgt := 254) hx hb dX1_load_220 (by decide) ?_
            refine lv_iinc (k := 1) (v := nI (k' + 1)) (lv' := [(7, .int (nI (k' + 1))), (8, .int (V.1 0 (16 * k' + b))), (6, .int (bI al)), (0, .ref (o 0)), (1, .int (nI u)), (2, .int (nI b))]) hx hb dX1_load_254 hl rfl (lw_inc k' 1) (by decide) rfl (fun ls hl => ?_)
            refine lv_goto (tgt := 175) hx hb dX1_load_257 (by decide) ?_
            exact ih (k' + 1) (by omega) _ _ _ _ (lv_sub hl [0, 2, 3, 4, 5] rfl) hw (by rw [← hf]; simp [mRlF, mRl1, g3, g4, g5])
        · refine lv_goto (tgt := 254) hx hb dX1_load_201 (by decide) ?_
          refine lv_iinc (k := 1) (v := nI (k' + 1)) (lv' := [(7, .int (nI (k' + 1))), (8, .int (V.1 0 (16 * k' + b))), (6, .int (bI al)), (0, .ref (o 0)), (1, .int (nI u)), (2, .int (nI b))]) hx hb dX1_load_254 hl rfl (lw_inc k' 1) (by decide) rfl (fun ls hl => ?_)
          refine lv_goto (tgt := 175) hx hb dX1_load_257 (by decide) ?_
          exact ih (k' + 1) (by omega) _ _ _ _ (lv_sub hl [0, 2, 3, 4, 5] rfl) hw (by rw [← hf]; simp [mRlF, mRl1, g3, g4])
  have mid : ∀ (f : Int32) (U : SX) (H : Heap) (locs : List Loc) (ls : Array Slot), (f = -1 ∨ ∃ c9, c9 < 4 ∧ f = nI c9) → lv_has ls 9 [(5, .int f), (3, .int (nI k)), (0, .ref (o 0)), (1, .int (nI u)), (2, .int (nI b))] → mW D o cA (mA o s.heap.size) s s.heap U H locs → (if k = 1 then mSe (mEoF u b 4 0 U) u b 4 else mLoE (decide (mOtF U u b 4 0 0 = 0)) (mRlF u b 4 0 (mLoM f U b)) u b) = mLo S u b k → W P0 l e (rmD 2) s m ([.ref (o 0), .int (nI u), .int (nI b), .int (nI k)]).toArray below meth c H locs 0 0 (MQ below (mQv D o cA s.heap.size (mLo S u b k)) ([.ref (o 0), .int (nI u), .int (nI b), .int (nI k)]).toArray s 0 0 (mA o s.heap.size)) (F0 m 117 ls []) := by
    intro f U H locs ls hfr hl hw hf
    refine lv_iload_n hx hb dX1_load_117 rfl (lv_at hl 1 rfl) ?_
    refine lv_iconst (v := 1) hx hb dX1_load_118 (by decide) ?_
    refine lv_icmp_ne (tgt := 136) hx hb dX1_load_119 (by decide) (fun g8 => ?_) (fun g8 => ?_)
    · have g8 : ¬ k = 1 := fun h9 => g8 ((nI_eq (a := k) (b := 1) (by omega) (by omega)).mpr h9)
      refine lv_aload_n hx hb dX1_load_136 rfl (lv_at hl 2 rfl) ?_
      refine lv_iload_n hx hb dX1_load_137 rfl (lv_at hl 3 rfl) ?_
      refine lv_iload_n hx hb dX1_load_138 rfl (lv_at hl 4 rfl) ?_
      refine m_ci (rest := []) ⟨hx, hb, hml, hown, hts⟩ (cm_others l D o cA U u b (by omega) (by omega)) (cwm_others hts ⟨by decide, by decide⟩) hw rfl hl.1 rfl (Nat.le_of_ble_eq_true rfl) dX1_load_139 ⟨Nat.zero_le _, Nat.zero_le _⟩ (fun H locs hw => ?_)
      have hle := mOtF_le (S := U) (p := u) (b := b) 4 0 0
      refine lv_if_ne (tgt := 149) hx hb dX1_load_142 (by decide) (fun g9 => ?_) (fun g9 => ?_)
      · have g9 : ¬ mOtF U u b 4 0 0 = 0 := fun h9 => g9 ((nI_eq (a := mOtF U u b 4 0 0) (b := 0) (by omega) (by omega)).mpr h9)
        refine lv_iconst (v := 0) hx hb dX1_load_149 (by decide) ?_
        refine lv_istore (lv' := [(6, .int 0), (5, .int f), (3, .int (nI k)), (0, .ref (o 0)), (1, .int (nI u)), (2, .int (nI b))]) hx hb dX1_load_150 hl (by decide) rfl (fun ls hl => ?_)
        refine lv_aload_n hx hb dX1_load_152 rfl (lv_at hl 3 rfl) ?_
        refine m_f0 hx hb hts hown hw dX1_load_153 ?_
        refine lv_iconst (v := 2) hx hb dX1_load_156 (by decide) ?_
        refine lv_icmp_ge (tgt := 172) hx hb dX1_load_157 (by decide) (fun g10 => ?_) (fun g10 => ?_)
        · refine lv_iconst (v := 0) hx hb dX1_load_172 (by decide) ?_
          refine lv_istore (lv' := [(7, .int 0), (6, .int 0), (5, .int f), (3, .int (nI k)), (0, .ref (o 0)), (1, .int (nI u)), (2, .int (nI b))]) hx hb dX1_load_173 hl (by decide) rfl (fun ls hl => ?_)
          exact loop false 4 0 rfl _ _ _ _ (lv_sub hl [0, 1, 4, 5, 6] rfl) hw (by rw [if_neg g8] at hf; rw [← hf]; simp [mLoM, g8, g9, g10])
        · refine lv_iload hx hb dX1_load_160 (lv_at hl 1 rfl) ?_
          refine lv_if_lt (tgt := 172) hx hb dX1_load_162 (by decide) (fun g11 => ?_) (fun g11 => ?_)
          · refine lv_iconst (v := 0) hx hb dX1_load_172 (by decide) ?_
            refine lv_istore (lv' := [(7, .int 0), (6, .int 0), (5, .int f), (3, .int (nI k)), (0, .ref (o 0)), (1, .int (nI u)), (2, .int (nI b))]) hx hb dX1_load_173 hl (by decide) rfl (fun ls hl => ?_)
            exact loop false 4 0 rfl _ _ _ _ (lv_sub hl [0, 1, 4, 5, 6] rfl) hw (by rw [if_neg g8] at hf; rw [← hf]; simp [mLoM, g8, g9, g10, g11])
          · obtain ⟨c9, hc9, rfl⟩ : ∃ c9, c9 < 4 ∧ f = nI c9 := hfr.resolve_left (fun h8 => g11 (by rw [h8]; decide))
            refine lv_aload_n hx hb dX1_load_165 rfl (lv_at hl 3 rfl) ?_
            refine lv_iload hx hb dX1_load_166 (lv_at hl 1 rfl) ?_
            refine lv_iload_n hx hb dX1_load_168 rfl (lv_at hl 5 rfl) ?_
            refine m_cv (rest := []) ⟨hx, hb, hml, hown, hts⟩ (cm_toMemory l D o cA U c9 b (by omega) (by omega)) (cwm_toMemory hts ⟨by decide, by decide⟩) hw rfl hl.1 rfl (Nat.le_of_ble_eq_true rfl) dX1_load_169 ⟨Nat.zero_le _, Nat.zero_le _⟩ (fun H locs hw => ?_)
            refine lv_iconst (v := 0) hx hb dX1_load_172 (by decide) ?_
            refine lv_istore (lv' := [(7, .int 0), (6, .int 0), (5, .int (nI c9)), (3, .int (nI k)), (0, .ref (o 0)), (1, .int (nI u)), (2, .int (nI b))]) hx hb dX1_load_173 hl (by decide) rfl (fun ls hl => ?_)
            exact loop false 4 0 rfl _ _ _ _ (lv_sub hl [0, 1, 4, 5, 6] rfl) hw (by rw [if_neg g8] at hf; rw [← hf]; simp [mLoM, g8, g9, g10, g11, nI_clamp (show c9 < 2 ^ 31 by omega)])
      · have g9 : mOtF U u b 4 0 0 = 0 := (nI_eq (a := mOtF U u b 4 0 0) (b := 0) (by omega) (by omega)).mp g9
        refine lv_iconst (v := 1) hx hb dX1_load_145 (by decide) ?_
        refine lv_goto (tgt := 150) hx hb dX1_load_146 (by decide) ?_
        refine lv_istore (lv' := [(6, .int 1), (5, .int f), (3, .int (nI k)), (0, .ref (o 0)), (1, .int (nI u)), (2, .int (nI b))]) hx hb dX1_load_150 hl (by decide) rfl (fun ls hl => ?_)
        refine lv_aload_n hx hb dX1_load_152 rfl (lv_at hl 3 rfl) ?_
        refine m_f0 hx hb hts hown hw dX1_load_153 ?_
        refine lv_iconst (v := 2) hx hb dX1_load_156 (by decide) ?_
        refine lv_icmp_ge (tgt := 172) hx hb dX1_load_157 (by decide) (fun g12 => ?_) (fun g12 => ?_)
        · refine lv_iconst (v := 0) hx hb dX1_load_172 (by decide) ?_
          refine lv_istore (lv' := [(7, .int 0), (6, .int 1), (5, .int f), (3, .int (nI k)), (0, .ref (o 0)), (1, .int (nI u)), (2, .int (nI b))]) hx hb dX1_load_173 hl (by decide) rfl (fun ls hl => ?_)
          exact loop true 4 0 rfl _ _ _ _ (lv_sub hl [0, 1, 4, 5, 6] rfl) hw (by rw [if_neg g8] at hf; rw [← hf]; simp [mLoM, g8, g9, g12])
        · refine lv_iload hx hb dX1_load_160 (lv_at hl 1 rfl) ?_
          refine lv_if_lt (tgt := 172) hx hb dX1_load_162 (by decide) (fun g13 => ?_) (fun g13 => ?_)
          · refine lv_iconst (v := 0) hx hb dX1_load_172 (by decide) ?_
            refine lv_istore (lv' := [(7, .int 0), (6, .int 1), (5, .int f), (3, .int (nI k)), (0, .ref (o 0)), (1, .int (nI u)), (2, .int (nI b))]) hx hb dX1_load_173 hl (by decide) rfl (fun ls hl => ?_)
            exact loop true 4 0 rfl _ _ _ _ (lv_sub hl [0, 1, 4, 5, 6] rfl) hw (by rw [if_neg g8] at hf; rw [← hf]; simp [mLoM, g8, g9, g12, g13])
          · obtain ⟨c9, hc9, rfl⟩ : ∃ c9, c9 < 4 ∧ f = nI c9 := hfr.resolve_left (fun h8 => g13 (by rw [h8]; decide))
            refine lv_aload_n hx hb dX1_load_165 rfl (lv_at hl 3 rfl) ?_
            refine lv_iload hx hb dX1_load_166 (lv_at hl 1 rfl) ?_
            refine lv_iload_n hx hb dX1_load_168 rfl (lv_at hl 5 rfl) ?_
            refine m_cv (rest := []) ⟨hx, hb, hml, hown, hts⟩ (cm_toMemory l D o cA U c9 b (by omega) (by omega)) (cwm_toMemory hts ⟨by decide, by decide⟩) hw rfl hl.1 rfl (Nat.le_of_ble_eq_true rfl) dX1_load_169 ⟨Nat.zero_le _, Nat.zero_le _⟩ (fun H locs hw => ?_)
            refine lv_iconst (v := 0) hx hb dX1_load_172 (by decide) ?_
            refine lv_istore (lv' := [(7, .int 0), (6, .int 1), (5, .int (nI c9)), (3, .int (nI k)), (0, .ref (o 0)), (1, .int (nI u)), (2, .int (nI b))]) hx hb dX1_load_173 hl (by decide) rfl (fun ls hl => ?_)
            exact loop true 4 0 rfl _ _ _ _ (lv_sub hl [0, 1, 4, 5, 6] rfl) hw (by rw [if_neg g8] at hf; rw [← hf]; simp [mLoM, g8, g9, g12, g13, nI_clamp (show c9 < 2 ^ 31 by omega)])
    · have g8 : k = 1 := (nI_eq (a := k) (b := 1) (by omega) (by omega)).mp g8
      refine lv_aload_n hx hb dX1_load_122 rfl (lv_at hl 2 rfl) ?_
      refine lv_iload_n hx hb dX1_load_123 rfl (lv_at hl 3 rfl) ?_
      refine lv_iload_n hx hb dX1_load_124 rfl (lv_at hl 4 rfl) ?_
      refine m_cv (rest := []) ⟨hx, hb, hml, hown, hts⟩ (cm_emptyOthers l D o cA U u b (by omega) (by omega)) (cwm_emptyOthers hts ⟨by decide, by decide⟩) hw rfl hl.1 rfl (Nat.le_of_ble_eq_true rfl) dX1_load_125 ⟨Nat.zero_le _, Nat.zero_le _⟩ (fun H locs hw => ?_)
      refine lv_aload_n hx hb dX1_load_128 rfl (lv_at hl 2 rfl) ?_
      refine lv_iload_n hx hb dX1_load_129 rfl (lv_at hl 3 rfl) ?_
      refine lv_iload_n hx hb dX1_load_130 rfl (lv_at hl 4 rfl) ?_
      refine lv_iconst (v := 4) hx hb dX1_load_131 (by decide) ?_
      refine m_cv (rest := []) ⟨hx, hb, hml, hown, hts⟩ (cm_setState l D o cA (mEoF u b 4 0 U) u b 4 (by omega) (by omega)) (cwm_setState hts ⟨by decide, by decide⟩) hw rfl hl.1 rfl (Nat.le_of_ble_eq_true rfl) dX1_load_132 ⟨Nat.zero_le _, Nat.zero_le _⟩ (fun H locs hw => ?_)
      exact m_retv hx hb hr hlocks hw (by rw [if_pos g8] at hf; exact hf) dX1_load_135
  have cpy : ∀ (H : Heap) (locs : List Loc) (ls : Array Slot), lv_has ls 9 [(5, .int (mDhF (mLoT S u b k) b 4 0)), (3, .int (nI k)), (0, .ref (o 0)), (1, .int (nI u)), (2, .int (nI b))] → mW D o cA (mA o s.heap.size) s s.heap (mLoT S u b k) H locs → W P0 l e (rmD 2) s m ([.ref (o 0), .int (nI u), .int (nI b), .int (nI k)]).toArray below meth c H locs 0 0 (MQ below (mQv D o cA s.heap.size (mLo S u b k)) ([.ref (o 0), .int (nI u), .int (nI b), .int (nI k)]).toArray s 0 0 (mA o s.heap.size)) (F0 m 54 ls []) := by
    intro H locs ls hl hw
    have hfr := mDhF_nat (S := (mLoT S u b k)) (b := b) 4 0 (by omega)
    have hend : (if k = 1 then mSe (mEoF u b 4 0 (mLoU (mLoT S u b k) u b)) u b 4 else mLoE (decide (mOtF (mLoU (mLoT S u b k) u b) u b 4 0 0 = 0)) (mRlF u b 4 0 (mLoM (mDhF (mLoT S u b k) b 4 0) (mLoU (mLoT S u b k) u b) b)) u b) = mLo S u b k := rfl
    unfold mLoU at hend
    generalize mDhF (mLoT S u b k) b 4 0 = f at hl hfr hend
    rcases id hfr with rfl | ⟨c9, hc9, rfl⟩
    · refine lv_iconst (v := 0) hx hb dX1_load_54 (by decide) ?_
      refine lv_istore (lv' := [(6, .int 0), (5, .int (-1)), (3, .int (nI k)), (0, .ref (o 0)), (1, .int (nI u)), (2, .int (nI b))]) hx hb dX1_load_55 hl (by decide) rfl (fun ls hl => ?_)
      refine lv_iload hx hb dX1_load_57 (lv_at hl 0 rfl) ?_
      refine lv_iconst (v := 2) hx hb dX1_load_59 (by decide) ?_
      refine lv_icmp_ge (tgt := 117) hx hb dX1_load_60 (by decide) (fun h9 => absurd h9 (by decide)) (fun _ => ?_)
      refine lv_iconst (v := 2) hx hb dX1_load_63 (by decide) ?_
      refine lv_iload_n hx hb dX1_load_64 rfl (lv_at hl 5 rfl) ?_
      refine lv_imul hx hb dX1_load_65 ?_
      refine lw_top (y := nI (2 * b)) (pk_mul 2 b) ?_
      refine lv_iload hx hb dX1_load_66 (lv_at hl 0 rfl) ?_
      refine lv_iadd hx hb dX1_load_68 ?_
      refine lw_top (y := nI ((2 * b) + 0)) (nI_add (2 * b) 0) ?_
      refine lv_istore (lv' := [(7, .int (nI ((2 * b) + 0))), (6, .int 0), (5, .int (-1)), (3, .int (nI k)), (0, .ref (o 0)), (1, .int (nI u)), (2, .int (nI b))]) hx hb dX1_load_69 hl (by decide) rfl (fun ls hl => ?_)
      refine lv_aload_n hx hb dX1_load_71 rfl (lv_at hl 4 rfl) ?_
      refine m_g1 hx hb hts hown hw dX1_load_72 ?_
      refine lv_bipush (v := 32) hx hb dX1_load_75 (by decide) ?_
      refine lv_iload_n hx hb dX1_load_77 rfl (lv_at hl 5 rfl) ?_
      refine lv_imul hx hb dX1_load_78 ?_
      refine lw_top (y := nI (32 * u)) (pk_mul 32 u) ?_
      refine lv_iload hx hb dX1_load_79 (lv_at hl 0 rfl) ?_
      refine lv_iadd hx hb dX1_load_81 ?_
      refine lw_top (y := nI ((32 * u) + ((2 * b) + 0))) (nI_add (32 * u) ((2 * b) + 0)) ?_
      refine lv_iload hx hb dX1_load_82 (lv_at hl 2 rfl) ?_
      refine lv_if_lt (tgt := 103) hx hb dX1_load_84 (by decide) (fun _ => ?_) (fun h9 => absurd (by decide) h9)
      refine lv_aload_n hx hb dX1_load_103 rfl (lv_at hl 4 rfl) ?_
      refine m_g2 hx hb hts hown hw dX1_load_104 ?_
      refine lv_iload hx hb dX1_load_107 (lv_at hl 0 rfl) ?_
      refine m_l2 (n := (2 * b) + 0) hx hb hw (by omega) dX1_load_109 ?_
      refine m_s1 (n := (32 * u) + ((2 * b) + 0)) (x := ((mLoT S u b k).1 2 ((2 * b) + 0))) hx hb hw (by omega) dX1_load_110 (fun H locs hw => ?_)
      refine lv_iinc (k := 1) (v := nI (0 + 1)) (lv' := [(6, .int (nI (0 + 1))), (7, .int (nI ((2 * b) + 0))), (5, .int (-1)), (3, .int (nI k)), (0, .ref (o 0)), (1, .int (nI u)), (2, .int (nI b))]) hx hb dX1_load_111 hl rfl (lw_inc 0 1) (by decide) rfl (fun ls hl => ?_)
      refine lv_goto (tgt := 57) hx hb dX1_load_114 (by decide) ?_
      refine lv_iload hx hb dX1_load_57 (lv_at hl 0 rfl) ?_
      refine lv_iconst (v := 2) hx hb dX1_load_59 (by decide) ?_
      refine lv_icmp_ge (tgt := 117) hx hb dX1_load_60 (by decide) (fun h9 => absurd h9 (by decide)) (fun _ => ?_)
      refine lv_iconst (v := 2) hx hb dX1_load_63 (by decide) ?_
      refine lv_iload_n hx hb dX1_load_64 rfl (lv_at hl 6 rfl) ?_
      refine lv_imul hx hb dX1_load_65 ?_
      refine lw_top (y := nI (2 * b)) (pk_mul 2 b) ?_
      refine lv_iload hx hb dX1_load_66 (lv_at hl 0 rfl) ?_
      refine lv_iadd hx hb dX1_load_68 ?_
      refine lw_top (y := nI ((2 * b) + (0 + 1))) (nI_add (2 * b) (0 + 1)) ?_
      refine lv_istore (lv' := [(7, .int (nI ((2 * b) + (0 + 1)))), (6, .int (nI (0 + 1))), (5, .int (-1)), (3, .int (nI k)), (0, .ref (o 0)), (1, .int (nI u)), (2, .int (nI b))]) hx hb dX1_load_69 hl (by decide) rfl (fun ls hl => ?_)
      refine lv_aload_n hx hb dX1_load_71 rfl (lv_at hl 4 rfl) ?_
      refine m_g1 hx hb hts hown hw dX1_load_72 ?_
      refine lv_bipush (v := 32) hx hb dX1_load_75 (by decide) ?_
      refine lv_iload_n hx hb dX1_load_77 rfl (lv_at hl 5 rfl) ?_
      refine lv_imul hx hb dX1_load_78 ?_
      refine lw_top (y := nI (32 * u)) (pk_mul 32 u) ?_
      refine lv_iload hx hb dX1_load_79 (lv_at hl 0 rfl) ?_
      refine lv_iadd hx hb dX1_load_81 ?_
      refine lw_top (y := nI ((32 * u) + ((2 * b) + (0 + 1)))) (nI_add (32 * u) ((2 * b) + (0 + 1))) ?_
      refine lv_iload hx hb dX1_load_82 (lv_at hl 2 rfl) ?_
      refine lv_if_lt (tgt := 103) hx hb dX1_load_84 (by decide) (fun _ => ?_) (fun h9 => absurd (by decide) h9)
      refine lv_aload_n hx hb dX1_load_103 rfl (lv_at hl 4 rfl) ?_
      refine m_g2 hx hb hts hown hw dX1_load_104 ?_
      refine lv_iload hx hb dX1_load_107 (lv_at hl 0 rfl) ?_
      refine m_l2 (n := (2 * b) + (0 + 1)) hx hb hw (by omega) dX1_load_109 ?_
      refine m_s1 (n := (32 * u) + ((2 * b) + (0 + 1))) (x := ((zA (mLoT S u b k) 1 (upd ((mLoT S u b k).1 1) ((32 * u) + ((2 * b) + 0)) ((mLoT S u b k).1 2 ((2 * b) + 0)))).1 2 ((2 * b) + (0 + 1)))) hx hb hw (by omega) dX1_load_110 (fun H locs hw => ?_)
      refine lv_iinc (k := 1) (v := nI ((0 + 1) + 1)) (lv' := [(6, .int (nI ((0 + 1) + 1))), (7, .int (nI ((2 * b) + (0 + 1)))), (5, .int (-1)), (3, .int (nI k)), (0, .ref (o 0)), (1, .int (nI u)), (2, .int (nI b))]) hx hb dX1_load_111 hl rfl (lw_inc (0 + 1) 1) (by decide) rfl (fun ls hl => ?_)
      refine lv_goto (tgt := 57) hx hb dX1_load_114 (by decide) ?_
      refine lv_iload hx hb dX1_load_57 (lv_at hl 0 rfl) ?_
      refine lv_iconst (v := 2) hx hb dX1_load_59 (by decide) ?_
      refine lv_icmp_ge (tgt := 117) hx hb dX1_load_60 (by decide) (fun _ => ?_) (fun h9 => absurd (by decide) h9)
      exact mid (-1) _ _ _ _ hfr (lv_sub hl [2, 3, 4, 5, 6] rfl) hw (by rw [← hend]; simp [mCw, mCw1, zA_zA, zA_s, zA_n])
    · refine lv_iconst (v := 0) hx hb dX1_load_54 (by decide) ?_
      refine lv_istore (lv' := [(6, .int 0), (5, .int (nI c9)), (3, .int (nI k)), (0, .ref (o 0)), (1, .int (nI u)), (2, .int (nI b))]) hx hb dX1_load_55 hl (by decide) rfl (fun ls hl => ?_)
      refine lv_iload hx hb dX1_load_57 (lv_at hl 0 rfl) ?_
      refine lv_iconst (v := 2) hx hb dX1_load_59 (by decide) ?_
      refine lv_icmp_ge (tgt := 117) hx hb dX1_load_60 (by decide) (fun h9 => absurd h9 (by decide)) (fun _ => ?_)
      refine lv_iconst (v := 2) hx hb dX1_load_63 (by decide) ?_
      refine lv_iload_n hx hb dX1_load_64 rfl (lv_at hl 5 rfl) ?_
      refine lv_imul hx hb dX1_load_65 ?_
      refine lw_top (y := nI (2 * b)) (pk_mul 2 b) ?_
      refine lv_iload hx hb dX1_load_66 (lv_at hl 0 rfl) ?_
      refine lv_iadd hx hb dX1_load_68 ?_
      refine lw_top (y := nI ((2 * b) + 0)) (nI_add (2 * b) 0) ?_
      refine lv_istore (lv' := [(7, .int (nI ((2 * b) + 0))), (6, .int 0), (5, .int (nI c9)), (3, .int (nI k)), (0, .ref (o 0)), (1, .int (nI u)), (2, .int (nI b))]) hx hb dX1_load_69 hl (by decide) rfl (fun ls hl => ?_)
      refine lv_aload_n hx hb dX1_load_71 rfl (lv_at hl 4 rfl) ?_
      refine m_g1 hx hb hts hown hw dX1_load_72 ?_
      refine lv_bipush (v := 32) hx hb dX1_load_75 (by decide) ?_
      refine lv_iload_n hx hb dX1_load_77 rfl (lv_at hl 5 rfl) ?_
      refine lv_imul hx hb dX1_load_78 ?_
      refine lw_top (y := nI (32 * u)) (pk_mul 32 u) ?_
      refine lv_iload hx hb dX1_load_79 (lv_at hl 0 rfl) ?_
      refine lv_iadd hx hb dX1_load_81 ?_
      refine lw_top (y := nI ((32 * u) + ((2 * b) + 0))) (nI_add (32 * u) ((2 * b) + 0)) ?_
      refine lv_iload hx hb dX1_load_82 (lv_at hl 2 rfl) ?_
      refine lv_if_lt (tgt := 103) hx hb dX1_load_84 (by decide) (fun h9 => absurd h9 (nI_pos (by omega))) (fun _ => ?_)
      refine lv_aload_n hx hb dX1_load_87 rfl (lv_at hl 4 rfl) ?_
      refine m_g1 hx hb hts hown hw dX1_load_88 ?_
      refine lv_bipush (v := 32) hx hb dX1_load_91 (by decide) ?_
      refine lv_iload hx hb dX1_load_93 (lv_at hl 2 rfl) ?_
      refine lv_imul hx hb dX1_load_95 ?_
      refine lw_top (y := nI (32 * c9)) (pk_mul 32 c9) ?_
      refine lv_iload hx hb dX1_load_96 (lv_at hl 0 rfl) ?_
      refine lv_iadd hx hb dX1_load_98 ?_
      refine lw_top (y := nI ((32 * c9) + ((2 * b) + 0))) (nI_add (32 * c9) ((2 * b) + 0)) ?_
      refine m_l1 (n := (32 * c9) + ((2 * b) + 0)) hx hb hw (by omega) dX1_load_99 ?_
      refine lv_goto (tgt := 110) hx hb dX1_load_100 (by decide) ?_
      refine m_s1 (n := (32 * u) + ((2 * b) + 0)) (x := ((mLoT S u b k).1 1 ((32 * c9) + ((2 * b) + 0)))) hx hb hw (by omega) dX1_load_110 (fun H locs hw => ?_)
      refine lv_iinc (k := 1) (v := nI (0 + 1)) (lv' := [(6, .int (nI (0 + 1))), (7, .int (nI ((2 * b) + 0))), (5, .int (nI c9)), (3, .int (nI k)), (0, .ref (o 0)), (1, .int (nI u)), (2, .int (nI b))]) hx hb dX1_load_111 hl rfl (lw_inc 0 1) (by decide) rfl (fun ls hl => ?_)
      refine lv_goto (tgt := 57) hx hb dX1_load_114 (by decide) ?_
      refine lv_iload hx hb dX1_load_57 (lv_at hl 0 rfl) ?_
      refine lv_iconst (v := 2) hx hb dX1_load_59 (by decide) ?_
      refine lv_icmp_ge (tgt := 117) hx hb dX1_load_60 (by decide) (fun h9 => absurd h9 (by decide)) (fun _ => ?_)
      refine lv_iconst (v := 2) hx hb dX1_load_63 (by decide) ?_
      refine lv_iload_n hx hb dX1_load_64 rfl (lv_at hl 6 rfl) ?_
      refine lv_imul hx hb dX1_load_65 ?_
      refine lw_top (y := nI (2 * b)) (pk_mul 2 b) ?_
      refine lv_iload hx hb dX1_load_66 (lv_at hl 0 rfl) ?_
      refine lv_iadd hx hb dX1_load_68 ?_
      refine lw_top (y := nI ((2 * b) + (0 + 1))) (nI_add (2 * b) (0 + 1)) ?_
      refine lv_istore (lv' := [(7, .int (nI ((2 * b) + (0 + 1)))), (6, .int (nI (0 + 1))), (5, .int (nI c9)), (3, .int (nI k)), (0, .ref (o 0)), (1, .int (nI u)), (2, .int (nI b))]) hx hb dX1_load_69 hl (by decide) rfl (fun ls hl => ?_)
      refine lv_aload_n hx hb dX1_load_71 rfl (lv_at hl 4 rfl) ?_
      refine m_g1 hx hb hts hown hw dX1_load_72 ?_
      refine lv_bipush (v := 32) hx hb dX1_load_75 (by decide) ?_
      refine lv_iload_n hx hb dX1_load_77 rfl (lv_at hl 5 rfl) ?_
      refine lv_imul hx hb dX1_load_78 ?_
      refine lw_top (y := nI (32 * u)) (pk_mul 32 u) ?_
      refine lv_iload hx hb dX1_load_79 (lv_at hl 0 rfl) ?_
      refine lv_iadd hx hb dX1_load_81 ?_
      refine lw_top (y := nI ((32 * u) + ((2 * b) + (0 + 1)))) (nI_add (32 * u) ((2 * b) + (0 + 1))) ?_
      refine lv_iload hx hb dX1_load_82 (lv_at hl 2 rfl) ?_
      refine lv_if_lt (tgt := 103) hx hb dX1_load_84 (by decide) (fun h9 => absurd h9 (nI_pos (by omega))) (fun _ => ?_)
      refine lv_aload_n hx hb dX1_load_87 rfl (lv_at hl 4 rfl) ?_
      refine m_g1 hx hb hts hown hw dX1_load_88 ?_
      refine lv_bipush (v := 32) hx hb dX1_load_91 (by decide) ?_
      refine lv_iload hx hb dX1_load_93 (lv_at hl 2 rfl) ?_
      refine lv_imul hx hb dX1_load_95 ?_
      refine lw_top (y := nI (32 * c9)) (pk_mul 32 c9) ?_
      refine lv_iload hx hb dX1_load_96 (lv_at hl 0 rfl) ?_
      refine lv_iadd hx hb dX1_load_98 ?_
      refine lw_top (y := nI ((32 * c9) + ((2 * b) + (0 + 1)))) (nI_add (32 * c9) ((2 * b) + (0 + 1))) ?_
      refine m_l1 (n := (32 * c9) + ((2 * b) + (0 + 1))) hx hb hw (by omega) dX1_load_99 ?_
      refine lv_goto (tgt := 110) hx hb dX1_load_100 (by decide) ?_
      refine m_s1 (n := (32 * u) + ((2 * b) + (0 + 1))) (x := ((zA (mLoT S u b k) 1 (upd ((mLoT S u b k).1 1) ((32 * u) + ((2 * b) + 0)) ((mLoT S u b k).1 1 ((32 * c9) + ((2 * b) + 0))))).1 1 ((32 * c9) + ((2 * b) + (0 + 1))))) hx hb hw (by omega) dX1_load_110 (fun H locs hw => ?_)
      refine lv_iinc (k := 1) (v := nI ((0 + 1) + 1)) (lv' := [(6, .int (nI ((0 + 1) + 1))), (7, .int (nI ((2 * b) + (0 + 1)))), (5, .int (nI c9)), (3, .int (nI k)), (0, .ref (o 0)), (1, .int (nI u)), (2, .int (nI b))]) hx hb dX1_load_111 hl rfl (lw_inc (0 + 1) 1) (by decide) rfl (fun ls hl => ?_)
      refine lv_goto (tgt := 57) hx hb dX1_load_114 (by decide) ?_
      refine lv_iload hx hb dX1_load_57 (lv_at hl 0 rfl) ?_
      refine lv_iconst (v := 2) hx hb dX1_load_59 (by decide) ?_
      refine lv_icmp_ge (tgt := 117) hx hb dX1_load_60 (by decide) (fun _ => ?_) (fun h9 => absurd (by decide) h9)
      exact mid (nI c9) _ _ _ _ hfr (lv_sub hl [2, 3, 4, 5, 6] rfl) hw (by rw [← hend]; simp [mCw, mCw1, zA_zA, zA_s, zA_n, nI_clamp (show c9 < 2 ^ 31 by omega), nI_pos (show c9 < 2 ^ 31 by omega)])
  have ev : ∀ (n c9 : Nat), c9 + 2 * n = 16 + b % 2 → ∀ (S' : SX) (H : Heap) (locs : List Loc) (ls : Array Slot), lv_has ls 9 [(5, .int (nI c9)), (3, .int (nI k)), (0, .ref (o 0)), (1, .int (nI u)), (2, .int (nI b))] → mW D o cA (mA o s.heap.size) s s.heap S' H locs → mEvF u n c9 S' = mEvF u 8 (b % 2) S → W P0 l e (rmD 2) s m ([.ref (o 0), .int (nI u), .int (nI b), .int (nI k)]).toArray below meth c H locs 0 0 (MQ below (mQv D o cA s.heap.size (mLo S u b k)) ([.ref (o 0), .int (nI u), .int (nI b), .int (nI k)]).toArray s 0 0 (mA o s.heap.size)) (F0 m 8 ls []) := by
    intro n
    induction n with
    | zero =>
      intro c9 hc9 S' H locs ls hl hw hf
      refine lv_iload hx hb dX1_load_8 (lv_at hl 0 rfl) ?_
      refine lv_bipush (v := 16) hx hb dX1_load_10 (by decide) ?_
      refine lv_icmp_ge (tgt := 40) hx hb dX1_load_12 (by decide) (fun _ => ?_) (fun h9 => absurd (nI_le (a := 16) (b := c9) (by omega) (by omega)) h9)
      refine lv_aload_n hx hb dX1_load_40 rfl (lv_at hl 2 rfl) ?_
      refine lv_iload_n hx hb dX1_load_41 rfl (lv_at hl 1 rfl) ?_
      refine lv_iload_n hx hb dX1_load_42 rfl (lv_at hl 3 rfl) ?_
      refine lv_iload_n hx hb dX1_load_43 rfl (lv_at hl 4 rfl) ?_
      refine m_cv (rest := []) ⟨hx, hb, hml, hown, hts⟩ (cm_transact l D o cA S' k u b (by omega) (by omega) (by omega)) (cwm_transact hts ⟨by decide, by decide⟩) hw rfl hl.1 rfl (Nat.le_of_ble_eq_true rfl) dX1_load_44 ⟨Nat.zero_le _, Nat.zero_le _⟩ (fun H locs hw => ?_)
      have hw : mW D o cA (mA o s.heap.size) s s.heap (mLoT S u b k) H locs := by rw [mLoT, ← hf]; exact hw
      refine lv_aload_n hx hb dX1_load_47 rfl (lv_at hl 2 rfl) ?_
      refine lv_iload_n hx hb dX1_load_48 rfl (lv_at hl 4 rfl) ?_
      refine m_ci (rest := []) ⟨hx, hb, hml, hown, hts⟩ (cm_dirtyHolder l D o cA (mLoT S u b k) b (by omega)) (cwm_dirtyHolder hts ⟨by decide, by decide⟩) hw rfl hl.1 rfl (Nat.le_of_ble_eq_true rfl) dX1_load_49 ⟨Nat.zero_le _, Nat.zero_le _⟩ (fun H locs hw => ?_)
      refine lv_istore (lv' := [(5, .int (mDhF (mLoT S u b k) b 4 0)), (3, .int (nI k)), (0, .ref (o 0)), (1, .int (nI u)), (2, .int (nI b))]) hx hb dX1_load_52 hl (by decide) rfl (fun ls hl => ?_)
      exact cpy _ _ _ (lv_sub hl [0, 1, 2, 3, 4] rfl) hw
    | succ n ih =>
      intro c9 hc9 S' H locs ls hl hw hf
      refine lv_iload hx hb dX1_load_8 (lv_at hl 0 rfl) ?_
      refine lv_bipush (v := 16) hx hb dX1_load_10 (by decide) ?_
      refine lv_icmp_ge (tgt := 40) hx hb dX1_load_12 (by decide) (fun h9 => absurd h9 (nI_ge (a := c9) (b := 16) (by omega) (by decide))) (fun _ => ?_)
      refine lv_aload_n hx hb dX1_load_15 rfl (lv_at hl 2 rfl) ?_
      refine lv_iload_n hx hb dX1_load_16 rfl (lv_at hl 3 rfl) ?_
      refine lv_iload hx hb dX1_load_17 (lv_at hl 0 rfl) ?_
      refine m_ci (rest := []) ⟨hx, hb, hml, hown, hts⟩ (cm_stateOf l D o cA S' u c9 (by omega) (by omega)) (cwm_stateOf hts ⟨by decide, by decide⟩) hw rfl hl.1 rfl (Nat.le_of_ble_eq_true rfl) dX1_load_19 ⟨Nat.zero_le _, Nat.zero_le _⟩ (fun H locs hw => ?_)
      refine lv_if_le (tgt := 34) hx hb dX1_load_22 (by decide) (fun g14 => ?_) (fun g14 => ?_)
      · refine lv_iinc (k := 0) (v := nI (c9 + 2)) (lv' := [(5, .int (nI (c9 + 2))), (3, .int (nI k)), (0, .ref (o 0)), (1, .int (nI u)), (2, .int (nI b))]) hx hb dX1_load_34 hl rfl (lw_inc c9 2) (by decide) rfl (fun ls hl => ?_)
        refine lv_goto (tgt := 8) hx hb dX1_load_37 (by decide) ?_
        exact ih (c9 + 2) (by omega) _ _ _ _ (lv_sub hl [0, 1, 2, 3, 4] rfl) hw (by rw [← hf]; simp [mEvF, mEv1, g14])
      · refine lv_aload_n hx hb dX1_load_25 rfl (lv_at hl 2 rfl) ?_
        refine lv_iload_n hx hb dX1_load_26 rfl (lv_at hl 3 rfl) ?_
        refine lv_iload hx hb dX1_load_27 (lv_at hl 0 rfl) ?_
        refine m_ci (rest := []) ⟨hx, hb, hml, hown, hts⟩ (cm_empty l D o cA S' u c9 (by omega) (by omega)) (cwm_empty hts ⟨by decide, by decide⟩) hw rfl hl.1 rfl (Nat.le_of_ble_eq_true rfl) dX1_load_29 ⟨Nat.zero_le _, Nat.zero_le _⟩ (fun H locs hw => ?_)
        refine lv_istore (lv' := [(4, .int (bI (mDi (S'.1 0 (16 * u + c9))))), (5, .int (nI c9)), (3, .int (nI k)), (0, .ref (o 0)), (1, .int (nI u)), (2, .int (nI b))]) hx hb dX1_load_32 hl (by decide) rfl (fun ls hl => ?_)
        refine lv_iinc (k := 1) (v := nI (c9 + 2)) (lv' := [(5, .int (nI (c9 + 2))), (4, .int (bI (mDi (S'.1 0 (16 * u + c9))))), (3, .int (nI k)), (0, .ref (o 0)), (1, .int (nI u)), (2, .int (nI b))]) hx hb dX1_load_34 hl rfl (lw_inc c9 2) (by decide) rfl (fun ls hl => ?_)
        refine lv_goto (tgt := 8) hx hb dX1_load_37 (by decide) ?_
        exact ih (c9 + 2) (by omega) _ _ _ _ (lv_sub hl [0, 2, 3, 4, 5] rfl) hw (by rw [← hf]; simp [mEvF, mEv1, g14])
  refine lv_iconst (v := 0) hx hb dX1_load_0 (by decide) ?_
  refine lv_istore (lv' := [(4, .int 0), (0, .ref (o 0)), (1, .int (nI u)), (2, .int (nI b)), (3, .int (nI k))]) hx hb dX1_load_1 hl (by decide) rfl (fun ls hl => ?_)
  refine lv_iload_n hx hb dX1_load_3 rfl (lv_at hl 3 rfl) ?_
  refine lv_iconst (v := 2) hx hb dX1_load_4 (by decide) ?_
  refine lv_irem hx hb dX1_load_5 (by decide) ?_
  refine lw_top (y := nI (b % 2)) (pk_rem (a := b) (d := 2) (by omega) (by decide) (by decide)) ?_
  refine lv_istore (lv' := [(5, .int (nI (b % 2))), (4, .int 0), (0, .ref (o 0)), (1, .int (nI u)), (2, .int (nI b)), (3, .int (nI k))]) hx hb dX1_load_6 hl (by decide) rfl (fun ls hl => ?_)
  exact ev 8 (b % 2) (by omega) _ _ _ _ (lv_sub hl [0, 5, 2, 3, 4] rfl) hw rfl
theorem cwm_load {R : Room} {s : State} {args : Array Value} (hts : ∀ w ∈ GT, w.before args s = true) (hR : 2 + 1 ≤ R.frames ∧ 8 + (9 + 11) + 40 * 2 ≤ R.locals) : CallW R s args RX1 RX1 76 yX1_load cX1_load 9 none ((.code yX1_load cX1_load 9 none : Cond) :: GT) (rmD 2) 0 0 3 :=
  cwV 3 hts (show GoodIn GT (wsV RX1 76 RX1 yX1_load ((.code yX1_load cX1_load 9 none : Cond) :: GT)) from lw_gin (lw_gin (lw_gin (lw_gin (lw_gin lw_self gw_211) gw_3) gw_299) gw_210) gw_209) rfl rfl rfl (by decide +kernel) hR
set_option maxRecDepth 100000 in
set_option maxHeartbeats 4000000 in
theorem cm_hit (l : Launch) (D : va_G) (o : Nat → Nat) (cA : ClassId) (S : SX) (u b : Nat) (hu : u < 4) (hbb : b < 16) : mMi l D o cA yX1_hit cX1_hit 4 (some .boolean) 1 [.ref (o 0), .int (nI u), .int (nI b)] S (mHi S u b) (bI (mHo S u b)) := by
  intro sz
  refine m_met (by decide) rfl (Nat.le_of_ble_eq_true rfl) ?_
  intro P0 e s m below meth c ls hsz hx hb hml hr hlocks hown hts hl hw
  subst hsz
  have hl : lv_has ls 4 [(0, .ref (o 0)), (1, .int (nI u)), (2, .int (nI b))] := hl
  refine lv_aload_n hx hb dX1_hit_0 rfl (lv_at hl 0 rfl) ?_
  refine lv_iload_n hx hb dX1_hit_1 rfl (lv_at hl 1 rfl) ?_
  refine lv_iload_n hx hb dX1_hit_2 rfl (lv_at hl 2 rfl) ?_
  refine m_ci (rest := []) ⟨hx, hb, hml, hown, hts⟩ (cm_stateOf l D o cA S u b (by omega) (by omega)) (cwm_stateOf hts ⟨by decide, by decide⟩) hw rfl hl.1 rfl (Nat.le_of_ble_eq_true rfl) dX1_hit_3 ⟨Nat.zero_le _, Nat.zero_le _⟩ (fun H locs hw => ?_)
  refine lv_if_le (tgt := 13) hx hb dX1_hit_6 (by decide) (fun g1 => ?_) (fun g1 => ?_)
  · refine lv_iconst (v := 0) hx hb dX1_hit_13 (by decide) ?_
    refine lv_istore_n (lv' := [(3, .int 0), (0, .ref (o 0)), (1, .int (nI u)), (2, .int (nI b))]) hx hb dX1_hit_14 rfl hl (by decide) rfl (fun ls hl => ?_)
    refine lv_iload_n hx hb dX1_hit_15 rfl (lv_at hl 0 rfl) ?_
    refine lv_if_eq (tgt := 32) hx hb dX1_hit_16 (by decide) (fun _ => ?_) (fun h9 => absurd (by decide) h9)
    refine lv_aload_n hx hb dX1_hit_32 rfl (lv_at hl 1 rfl) ?_
    refine lv_dup hx hb dX1_hit_33 rfl ?_
    refine m_f3 hx hb hts hown hw dX1_hit_34 ?_
    refine lv_iconst (v := 1) hx hb dX1_hit_37 (by decide) ?_
    refine lv_iadd hx hb dX1_hit_38 ?_
    refine m_p3 (x := ((S.2 3) + 1)) hx hb hts hown hw dX1_hit_39 (fun H locs hw => ?_)
    refine lv_iload_n hx hb dX1_hit_42 rfl (lv_at hl 0 rfl) ?_
    exact m_retz hx hb hr hlocks hw ⟨by simp [mHo, bI, g1], by simp [mHi, mHo, g1]⟩ dX1_hit_43
  · refine lv_iconst (v := 1) hx hb dX1_hit_9 (by decide) ?_
    refine lv_goto (tgt := 14) hx hb dX1_hit_10 (by decide) ?_
    refine lv_istore_n (lv' := [(3, .int 1), (0, .ref (o 0)), (1, .int (nI u)), (2, .int (nI b))]) hx hb dX1_hit_14 rfl hl (by decide) rfl (fun ls hl => ?_)
    refine lv_iload_n hx hb dX1_hit_15 rfl (lv_at hl 0 rfl) ?_
    refine lv_if_eq (tgt := 32) hx hb dX1_hit_16 (by decide) (fun h9 => absurd h9 (by decide)) (fun _ => ?_)
    refine lv_aload_n hx hb dX1_hit_19 rfl (lv_at hl 1 rfl) ?_
    refine lv_dup hx hb dX1_hit_20 rfl ?_
    refine m_f2 hx hb hts hown hw dX1_hit_21 ?_
    refine lv_iconst (v := 1) hx hb dX1_hit_24 (by decide) ?_
    refine lv_iadd hx hb dX1_hit_25 ?_
    refine m_p2 (x := ((S.2 2) + 1)) hx hb hts hown hw dX1_hit_26 (fun H locs hw => ?_)
    refine lv_goto (tgt := 42) hx hb dX1_hit_29 (by decide) ?_
    refine lv_iload_n hx hb dX1_hit_42 rfl (lv_at hl 0 rfl) ?_
    exact m_retz hx hb hr hlocks hw ⟨by simp [mHo, bI, g1], by simp [mHi, mHo, g1]⟩ dX1_hit_43
theorem cwm_hit {R : Room} {s : State} {args : Array Value} (hts : ∀ w ∈ GT, w.before args s = true) (hR : 1 + 1 ≤ R.frames ∧ 8 + (4 + 11) + 40 * 1 ≤ R.locals) : CallW R s args RX1 RX1 73 yX1_hit cX1_hit 4 (some .boolean) ((.code yX1_hit cX1_hit 4 (some .boolean) : Cond) :: GT) (rmD 1) 0 0 2 :=
  cwV 2 hts (show GoodIn GT (wsV RX1 73 RX1 yX1_hit ((.code yX1_hit cX1_hit 4 (some .boolean) : Cond) :: GT)) from lw_gin (lw_gin (lw_gin (lw_gin (lw_gin lw_self gw_205) gw_3) gw_297) gw_204) gw_203) rfl rfl rfl (by decide +kernel) hR
set_option maxRecDepth 100000 in
set_option maxHeartbeats 4000000 in
theorem cm_read_bad (l : Launch) (D : va_G) (o : Nat → Nat) (cA : ClassId) (S : SX) (x y : Int32) (hbad : (inW x 3 && inW y 31) = false) : mMi l D o cA yX1_read cX1_read 4 (some .int) 1 [.ref (o 0), .int x, .int y] S (zF S 4 1) (0) := by
  intro sz
  refine m_met (by decide) rfl (Nat.le_of_ble_eq_true rfl) ?_
  intro P0 e s m below meth c ls hsz hx hb hml hr hlocks hown hts hl hw
  subst hsz
  have hl : lv_has ls 4 [(0, .ref (o 0)), (1, .int x), (2, .int y)] := hl
  refine lv_aload_n hx hb dX1_read_0 rfl (lv_at hl 0 rfl) ?_
  refine lv_iload_n hx hb dX1_read_1 rfl (lv_at hl 1 rfl) ?_
  refine lv_iconst (v := 3) hx hb dX1_read_2 (by decide) ?_
  refine m_cs (rest := [.ref (o 0)]) ⟨hx, hb, hml, hown, hts⟩ (cm_within l x 3) (cwm_within hts ⟨by decide, by decide⟩) hw rfl hl.1 rfl (Nat.le_of_ble_eq_true rfl) dX1_read_3 ⟨Nat.zero_le _, Nat.zero_le _⟩ (fun H locs hw => ?_)
  refine lv_if_eq (tgt := 22) hx hb dX1_read_6 (by decide) (fun g1 => ?_) (fun g1 => ?_)
  · have g1 := bI_z.mp g1
    refine lv_iconst (v := 1) hx hb dX1_read_22 (by decide) ?_
    refine m_p4 (x := 1) hx hb hts hown hw dX1_read_23 (fun H locs hw => ?_)
    refine lv_aload_n hx hb dX1_read_26 rfl (lv_at hl 0 rfl) ?_
    refine m_f4 hx hb hts hown hw dX1_read_27 ?_
    refine lv_if_le (tgt := 35) hx hb dX1_read_30 (by decide) (fun h9 => absurd h9 ((by rw [zF_s]; decide))) (fun _ => ?_)
    refine lv_iconst (v := 0) hx hb dX1_read_33 (by decide) ?_
    exact m_reti hx hb hr hlocks hw ⟨rfl, rfl⟩ dX1_read_34
  · have g1 := bI_n.mp g1
    refine lv_iload_n hx hb dX1_read_9 rfl (lv_at hl 2 rfl) ?_
    refine lv_bipush (v := 31) hx hb dX1_read_10 (by decide) ?_
    refine m_cs (rest := [.ref (o 0)]) ⟨hx, hb, hml, hown, hts⟩ (cm_within l y 31) (cwm_within hts ⟨by decide, by decide⟩) hw rfl hl.1 rfl (Nat.le_of_ble_eq_true rfl) dX1_read_12 ⟨Nat.zero_le _, Nat.zero_le _⟩ (fun H locs hw => ?_)
    refine lv_if_eq (tgt := 22) hx hb dX1_read_15 (by decide) (fun _ => ?_) (fun h9 => absurd (bI_z.mpr (by rw [g1, Bool.true_and] at hbad; exact hbad)) h9)
    refine lv_iconst (v := 1) hx hb dX1_read_22 (by decide) ?_
    refine m_p4 (x := 1) hx hb hts hown hw dX1_read_23 (fun H locs hw => ?_)
    refine lv_aload_n hx hb dX1_read_26 rfl (lv_at hl 0 rfl) ?_
    refine m_f4 hx hb hts hown hw dX1_read_27 ?_
    refine lv_if_le (tgt := 35) hx hb dX1_read_30 (by decide) (fun h9 => absurd h9 ((by rw [zF_s]; decide))) (fun _ => ?_)
    refine lv_iconst (v := 0) hx hb dX1_read_33 (by decide) ?_
    exact m_reti hx hb hr hlocks hw ⟨rfl, rfl⟩ dX1_read_34
set_option maxRecDepth 100000 in
set_option maxHeartbeats 4000000 in
theorem cm_write_bad (l : Launch) (D : va_G) (o : Nat → Nat) (cA : ClassId) (S : SX) (x y : Int32) (z : Int32) (hbad : (inW x 3 && inW y 31) = false) : mMi l D o cA yX1_write cX1_write 9 (some .int) 1 [.ref (o 0), .int x, .int y, .int z] S (zF S 4 1) (0) := by
  intro sz
  refine m_met (by decide) rfl (Nat.le_of_ble_eq_true rfl) ?_
  intro P0 e s m below meth c ls hsz hx hb hml hr hlocks hown hts hl hw
  subst hsz
  have hl : lv_has ls 9 [(0, .ref (o 0)), (1, .int x), (2, .int y), (3, .int z)] := hl
  refine lv_aload_n hx hb dX1_write_0 rfl (lv_at hl 0 rfl) ?_
  refine lv_iload_n hx hb dX1_write_1 rfl (lv_at hl 1 rfl) ?_
  refine lv_iconst (v := 3) hx hb dX1_write_2 (by decide) ?_
  refine m_cs (rest := [.ref (o 0)]) ⟨hx, hb, hml, hown, hts⟩ (cm_within l x 3) (cwm_within hts ⟨by decide, by decide⟩) hw rfl hl.1 rfl (Nat.le_of_ble_eq_true rfl) dX1_write_3 ⟨Nat.zero_le _, Nat.zero_le _⟩ (fun H locs hw => ?_)
  refine lv_if_eq (tgt := 22) hx hb dX1_write_6 (by decide) (fun g1 => ?_) (fun g1 => ?_)
  · have g1 := bI_z.mp g1
    refine lv_iconst (v := 1) hx hb dX1_write_22 (by decide) ?_
    refine m_p4 (x := 1) hx hb hts hown hw dX1_write_23 (fun H locs hw => ?_)
    refine lv_aload_n hx hb dX1_write_26 rfl (lv_at hl 0 rfl) ?_
    refine m_f4 hx hb hts hown hw dX1_write_27 ?_
    refine lv_if_le (tgt := 35) hx hb dX1_write_30 (by decide) (fun h9 => absurd h9 ((by rw [zF_s]; decide))) (fun _ => ?_)
    refine lv_iconst (v := 0) hx hb dX1_write_33 (by decide) ?_
    exact m_reti hx hb hr hlocks hw ⟨rfl, rfl⟩ dX1_write_34
  · have g1 := bI_n.mp g1
    refine lv_iload_n hx hb dX1_write_9 rfl (lv_at hl 2 rfl) ?_
    refine lv_bipush (v := 31) hx hb dX1_write_10 (by decide) ?_
    refine m_cs (rest := [.ref (o 0)]) ⟨hx, hb, hml, hown, hts⟩ (cm_within l y 31) (cwm_within hts ⟨by decide, by decide⟩) hw rfl hl.1 rfl (Nat.le_of_ble_eq_true rfl) dX1_write_12 ⟨Nat.zero_le _, Nat.zero_le _⟩ (fun H locs hw => ?_)
    refine lv_if_eq (tgt := 22) hx hb dX1_write_15 (by decide) (fun _ => ?_) (fun h9 => absurd (bI_z.mpr (by rw [g1, Bool.true_and] at hbad; exact hbad)) h9)
    refine lv_iconst (v := 1) hx hb dX1_write_22 (by decide) ?_
    refine m_p4 (x := 1) hx hb hts hown hw dX1_write_23 (fun H locs hw => ?_)
    refine lv_aload_n hx hb dX1_write_26 rfl (lv_at hl 0 rfl) ?_
    refine m_f4 hx hb hts hown hw dX1_write_27 ?_
    refine lv_if_le (tgt := 35) hx hb dX1_write_30 (by decide) (fun h9 => absurd h9 ((by rw [zF_s]; decide))) (fun _ => ?_)
    refine lv_iconst (v := 0) hx hb dX1_write_33 (by decide) ?_
    exact m_reti hx hb hr hlocks hw ⟨rfl, rfl⟩ dX1_write_34
set_option maxRecDepth 100000 in
set_option maxHeartbeats 4000000 in
theorem cm_read (l : Launch) (D : va_G) (o : Nat → Nat) (cA : ClassId) (S : SX) (u a : Nat) (hu : u < 4) (ha : a < 32) : mMi l D o cA yX1_read cX1_read 4 (some .int) 3 [.ref (o 0), .int (nI u), .int (nI a)] S (mRd (zF S 4 0) u a) ((mRd (zF S 4 0) u a).1 1 (32 * u + a)) := by
  intro sz
  refine m_met (by decide) rfl (Nat.le_of_ble_eq_true rfl) ?_
  intro P0 e s m below meth c ls hsz hx hb hml hr hlocks hown hts hl hw
  subst hsz
  have hl : lv_has ls 4 [(0, .ref (o 0)), (1, .int (nI u)), (2, .int (nI a))] := hl
  have fin : ∀ (H : Heap) (locs : List Loc) (ls : Array Slot), lv_has ls 4 [(3, .int (nI (a / 2))), (0, .ref (o 0)), (1, .int (nI u)), (2, .int (nI a))] → mW D o cA (mA o s.heap.size) s s.heap (mRd (zF S 4 0) u a) H locs → W P0 l e (rmD 3) s m ([.ref (o 0), .int (nI u), .int (nI a)]).toArray below meth c H locs 0 0 (MQ below (mQi D o cA s.heap.size (mRd (zF S 4 0) u a) ((mRd (zF S 4 0) u a).1 1 (32 * u + a))) ([.ref (o 0), .int (nI u), .int (nI a)]).toArray s 0 0 (mA o s.heap.size)) (F0 m 55 ls []) := by
    intro H locs ls hl hw
    refine lv_aload_n hx hb dX1_read_55 rfl (lv_at hl 1 rfl) ?_
    refine m_g1 hx hb hts hown hw dX1_read_56 ?_
    refine lv_bipush (v := 32) hx hb dX1_read_59 (by decide) ?_
    refine lv_iload_n hx hb dX1_read_61 rfl (lv_at hl 2 rfl) ?_
    refine lv_imul hx hb dX1_read_62 ?_
    refine lw_top (y := nI (32 * u)) (pk_mul 32 u) ?_
    refine lv_iload_n hx hb dX1_read_63 rfl (lv_at hl 3 rfl) ?_
    refine lv_iadd hx hb dX1_read_64 ?_
    refine lw_top (y := nI ((32 * u) + a)) (nI_add (32 * u) a) ?_
    refine m_l1 (n := (32 * u) + a) hx hb hw (by omega) dX1_read_65 ?_
    exact m_reti hx hb hr hlocks hw ⟨rfl, rfl⟩ dX1_read_66
  refine lv_aload_n hx hb dX1_read_0 rfl (lv_at hl 0 rfl) ?_
  refine lv_iload_n hx hb dX1_read_1 rfl (lv_at hl 1 rfl) ?_
  refine lv_iconst (v := 3) hx hb dX1_read_2 (by decide) ?_
  refine m_cs (rest := [.ref (o 0)]) ⟨hx, hb, hml, hown, hts⟩ (cm_within l (nI u) 3) (cwm_within hts ⟨by decide, by decide⟩) hw rfl hl.1 rfl (Nat.le_of_ble_eq_true rfl) dX1_read_3 ⟨Nat.zero_le _, Nat.zero_le _⟩ (fun H locs hw => ?_)
  refine lv_if_eq (tgt := 22) hx hb dX1_read_6 (by decide) (fun h9 => absurd h9 (bI_n.mpr (inW_t (n := 3) hu (by decide)))) (fun _ => ?_)
  refine lv_iload_n hx hb dX1_read_9 rfl (lv_at hl 2 rfl) ?_
  refine lv_bipush (v := 31) hx hb dX1_read_10 (by decide) ?_
  refine m_cs (rest := [.ref (o 0)]) ⟨hx, hb, hml, hown, hts⟩ (cm_within l (nI a) 31) (cwm_within hts ⟨by decide, by decide⟩) hw rfl hl.1 rfl (Nat.le_of_ble_eq_true rfl) dX1_read_12 ⟨Nat.zero_le _, Nat.zero_le _⟩ (fun H locs hw => ?_)
  refine lv_if_eq (tgt := 22) hx hb dX1_read_15 (by decide) (fun h9 => absurd h9 (bI_n.mpr (inW_t (n := 31) ha (by decide)))) (fun _ => ?_)
  refine lv_iconst (v := 0) hx hb dX1_read_18 (by decide) ?_
  refine lv_goto (tgt := 23) hx hb dX1_read_19 (by decide) ?_
  refine m_p4 (x := 0) hx hb hts hown hw dX1_read_23 (fun H locs hw => ?_)
  refine lv_aload_n hx hb dX1_read_26 rfl (lv_at hl 0 rfl) ?_
  refine m_f4 hx hb hts hown hw dX1_read_27 ?_
  refine lv_if_le (tgt := 35) hx hb dX1_read_30 (by decide) (fun _ => ?_) (fun h9 => absurd ((by rw [zF_s]; decide)) h9)
  refine lv_iload_n hx hb dX1_read_35 rfl (lv_at hl 2 rfl) ?_
  refine lv_iconst (v := 2) hx hb dX1_read_36 (by decide) ?_
  refine lv_idiv hx hb dX1_read_37 (by decide) ?_
  refine lw_top (y := nI (a / 2)) (pk_div (a := a) (d := 2) (by omega) (by decide) (by decide)) ?_
  refine lv_istore_n (lv' := [(3, .int (nI (a / 2))), (0, .ref (o 0)), (1, .int (nI u)), (2, .int (nI a))]) hx hb dX1_read_38 rfl hl (by decide) rfl (fun ls hl => ?_)
  refine lv_aload_n hx hb dX1_read_39 rfl (lv_at hl 1 rfl) ?_
  refine lv_iload_n hx hb dX1_read_40 rfl (lv_at hl 2 rfl) ?_
  refine lv_iload_n hx hb dX1_read_41 rfl (lv_at hl 0 rfl) ?_
  refine m_ci (rest := []) ⟨hx, hb, hml, hown, hts⟩ (cm_hit l D o cA (zF S 4 0) u (a / 2) (by omega) (by omega)) (cwm_hit hts ⟨by decide, by decide⟩) hw rfl hl.1 rfl (Nat.le_of_ble_eq_true rfl) dX1_read_42 ⟨Nat.zero_le _, Nat.zero_le _⟩ (fun H locs hw => ?_)
  refine lv_if_ne (tgt := 55) hx hb dX1_read_45 (by decide) (fun g1 => ?_) (fun g1 => ?_)
  · have g1 := bI_n.mp g1
    exact fin _ _ _ (lv_sub hl [0, 1, 2, 3] rfl) (by rw [mRd, if_pos g1]; exact hw)
  · have g1 := bI_z.mp g1
    refine lv_aload_n hx hb dX1_read_48 rfl (lv_at hl 1 rfl) ?_
    refine lv_iload_n hx hb dX1_read_49 rfl (lv_at hl 2 rfl) ?_
    refine lv_iload_n hx hb dX1_read_50 rfl (lv_at hl 0 rfl) ?_
    refine lv_iconst (v := 0) hx hb dX1_read_51 (by decide) ?_
    refine m_cv (rest := []) ⟨hx, hb, hml, hown, hts⟩ (cm_load l D o cA (mHi (zF S 4 0) u (a / 2)) u (a / 2) 0 (by omega) (by omega) (by omega)) (cwm_load hts ⟨by decide, by decide⟩) hw rfl hl.1 rfl (Nat.le_of_ble_eq_true rfl) dX1_read_52 ⟨Nat.zero_le _, Nat.zero_le _⟩ (fun H locs hw => ?_)
    exact fin _ _ _ (lv_sub hl [0, 1, 2, 3] rfl) (by rw [mRd, if_neg (Bool.eq_false_iff.mp g1)]; exact hw)
set_option maxRecDepth 100000 in
set_option maxHeartbeats 4000000 in
theorem cm_write (l : Launch) (D : va_G) (o : Nat → Nat) (cA : ClassId) (S : SX) (u a : Nat) (w : Int32) (hu : u < 4) (ha : a < 32) : mMi l D o cA yX1_write cX1_write 9 (some .int) 3 [.ref (o 0), .int (nI u), .int (nI a), .int w] S (mWr (zF S 4 0) u a w) ((mWr (zF S 4 0) u a w).2 1 - S.2 1) := by
  intro sz
  refine m_met (by decide) rfl (Nat.le_of_ble_eq_true rfl) ?_
  intro P0 e s m below meth c ls hsz hx hb hml hr hlocks hown hts hl hw
  subst hsz
  have hl : lv_has ls 9 [(0, .ref (o 0)), (1, .int (nI u)), (2, .int (nI a)), (3, .int w)] := hl
  have fin : ∀ (due : Int32) (V : SX) (H : Heap) (locs : List Loc) (ls : Array Slot), lv_has ls 9 [(7, .int due), (4, .int (nI (a / 2))), (5, .int ((zF S 4 0).2 1)), (0, .ref (o 0)), (1, .int (nI u)), (2, .int (nI a)), (3, .int w)] → mW D o cA (mA o s.heap.size) s s.heap V H locs → mWrE V u a w due = mWr (zF S 4 0) u a w → W P0 l e (rmD 3) s m ([.ref (o 0), .int (nI u), .int (nI a), .int w]).toArray below meth c H locs 0 0 (MQ below (mQi D o cA s.heap.size (mWr (zF S 4 0) u a w) ((mWr (zF S 4 0) u a w).2 1 - S.2 1)) ([.ref (o 0), .int (nI u), .int (nI a), .int w]).toArray s 0 0 (mA o s.heap.size)) (F0 m 205 ls []) := by
    intro due V H locs ls hl hw hf
    refine lv_aload_n hx hb dX1_write_205 rfl (lv_at hl 3 rfl) ?_
    refine lv_iload_n hx hb dX1_write_206 rfl (lv_at hl 4 rfl) ?_
    refine lv_iload hx hb dX1_write_207 (lv_at hl 1 rfl) ?_
    refine lv_iload hx hb dX1_write_209 (lv_at hl 0 rfl) ?_
    refine m_cv (rest := []) ⟨hx, hb, hml, hown, hts⟩ (cm_setState l D o cA V u (a / 2) due (by omega) (by omega)) (cwm_setState hts ⟨by decide, by decide⟩) hw rfl hl.1 rfl (Nat.le_of_ble_eq_true rfl) dX1_write_211 ⟨Nat.zero_le _, Nat.zero_le _⟩ (fun H locs hw => ?_)
    refine lv_aload_n hx hb dX1_write_214 rfl (lv_at hl 3 rfl) ?_
    refine m_g1 hx hb hts hown hw dX1_write_215 ?_
    refine lv_bipush (v := 32) hx hb dX1_write_218 (by decide) ?_
    refine lv_iload_n hx hb dX1_write_220 rfl (lv_at hl 4 rfl) ?_
    refine lv_imul hx hb dX1_write_221 ?_
    refine lw_top (y := nI (32 * u)) (pk_mul 32 u) ?_
    refine lv_iload_n hx hb dX1_write_222 rfl (lv_at hl 5 rfl) ?_
    refine lv_iadd hx hb dX1_write_223 ?_
    refine lw_top (y := nI ((32 * u) + a)) (nI_add (32 * u) a) ?_
    refine lv_iload_n hx hb dX1_write_224 rfl (lv_at hl 6 rfl) ?_
    refine m_s1 (n := (32 * u) + a) (x := w) hx hb hw (by omega) dX1_write_225 (fun H locs hw => ?_)
    refine lv_aload_n hx hb dX1_write_226 rfl (lv_at hl 3 rfl) ?_
    refine m_f1 hx hb hts hown hw dX1_write_227 ?_
    refine lv_iload hx hb dX1_write_230 (lv_at hl 2 rfl) ?_
    refine lv_isub hx hb dX1_write_232 ?_
    exact m_reti hx hb hr hlocks hw ⟨by rw [← hf]; rfl, by rw [← hf]; rfl⟩ dX1_write_233
  have loop : ∀ (due : Int32) (n k : Nat), n + k = 4 → ∀ (V : SX) (H : Heap) (locs : List Loc) (ls : Array Slot), lv_has ls 9 [(8, .int (nI k)), (7, .int due), (4, .int (nI (a / 2))), (5, .int ((zF S 4 0).2 1)), (0, .ref (o 0)), (1, .int (nI u)), (2, .int (nI a)), (3, .int w)] → mW D o cA (mA o s.heap.size) s s.heap V H locs → mWrE (mUpF u a w n k V) u a w due = mWr (zF S 4 0) u a w → W P0 l e (rmD 3) s m ([.ref (o 0), .int (nI u), .int (nI a), .int w]).toArray below meth c H locs 0 0 (MQ below (mQi D o cA s.heap.size (mWr (zF S 4 0) u a w) ((mWr (zF S 4 0) u a w).2 1 - S.2 1)) ([.ref (o 0), .int (nI u), .int (nI a), .int w]).toArray s 0 0 (mA o s.heap.size)) (F0 m 151 ls []) := by
    intro due n
    induction n with
    | zero =>
      intro k hk V H locs ls hl hw hf
      obtain rfl : k = 4 := by omega
      refine lv_iload hx hb dX1_write_151 (lv_at hl 0 rfl) ?_
      refine lv_iconst (v := 4) hx hb dX1_write_153 (by decide) ?_
      refine lv_icmp_ge (tgt := 205) hx hb dX1_write_154 (by decide) (fun _ => ?_) (fun h9 => absurd (by decide) h9)
      exact fin _ _ _ _ _ (lv_sub hl [1, 2, 3, 4, 5, 6, 7] rfl) hw hf
    | succ n ih =>
      intro k hk V H locs ls hl hw hf
      refine lv_iload hx hb dX1_write_151 (lv_at hl 0 rfl) ?_
      refine lv_iconst (v := 4) hx hb dX1_write_153 (by decide) ?_
      refine lv_icmp_ge (tgt := 205) hx hb dX1_write_154 (by decide) (fun h9 => absurd h9 (nI_ge (a := k) (b := 4) (by omega) (by decide))) (fun _ => ?_)
      refine lv_iload hx hb dX1_write_157 (lv_at hl 0 rfl) ?_
      refine lv_iload_n hx hb dX1_write_159 rfl (lv_at hl 5 rfl) ?_
      refine lv_icmp_eq (tgt := 199) hx hb dX1_write_160 (by decide) (fun g1 => ?_) (fun g1 => ?_)
      · have g1 : k = u := (nI_eq (a := k) (b := u) (by omega) (by omega)).mp g1
        refine lv_iinc (k := 0) (v := nI (k + 1)) (lv' := [(8, .int (nI (k + 1))), (7, .int due), (4, .int (nI (a / 2))), (5, .int ((zF S 4 0).2 1)), (0, .ref (o 0)), (1, .int (nI u)), (2, .int (nI a)), (3, .int w)]) hx hb dX1_write_199 hl rfl (lw_inc k 1) (by decide) rfl (fun ls hl => ?_)
        refine lv_goto (tgt := 151) hx hb dX1_write_202 (by decide) ?_
        exact ih (k + 1) (by omega) _ _ _ _ (lv_sub hl [0, 1, 2, 3, 4, 5, 6, 7] rfl) hw (by rw [← hf]; simp [mUpF, mUp1, g1])
      · have g1 : ¬ k = u := fun h9 => g1 ((nI_eq (a := k) (b := u) (by omega) (by omega)).mpr h9)
        refine lv_aload_n hx hb dX1_write_163 rfl (lv_at hl 4 rfl) ?_
        refine lv_iload hx hb dX1_write_164 (lv_at hl 0 rfl) ?_
        refine lv_iload hx hb dX1_write_166 (lv_at hl 2 rfl) ?_
        refine m_ci (rest := []) ⟨hx, hb, hml, hown, hts⟩ (cm_stateOf l D o cA V k (a / 2) (by omega) (by omega)) (cwm_stateOf hts ⟨by decide, by decide⟩) hw rfl hl.1 rfl (Nat.le_of_ble_eq_true rfl) dX1_write_168 ⟨Nat.zero_le _, Nat.zero_le _⟩ (fun H locs hw => ?_)
        refine lv_if_ne (tgt := 177) hx hb dX1_write_171 (by decide) (fun g2 => ?_) (fun g2 => ?_)
        · refine lv_aload_n hx hb dX1_write_177 rfl (lv_at hl 4 rfl) ?_
          refine m_g1 hx hb hts hown hw dX1_write_178 ?_
          refine lv_bipush (v := 32) hx hb dX1_write_181 (by decide) ?_
          refine lv_iload hx hb dX1_write_183 (lv_at hl 0 rfl) ?_
          refine lv_imul hx hb dX1_write_185 ?_
          refine lw_top (y := nI (32 * k)) (pk_mul 32 k) ?_
          refine lv_iload_n hx hb dX1_write_186 rfl (lv_at hl 6 rfl) ?_
          refine lv_iadd hx hb dX1_write_187 ?_
          refine lw_top (y := nI ((32 * k) + a)) (nI_add (32 * k) a) ?_
          refine lv_iload_n hx hb dX1_write_188 rfl (lv_at hl 7 rfl) ?_
          refine m_s1 (n := (32 * k) + a) (x := w) hx hb hw (by omega) dX1_write_189 (fun H locs hw => ?_)
          refine lv_aload_n hx hb dX1_write_190 rfl (lv_at hl 4 rfl) ?_
          refine lv_iload hx hb dX1_write_191 (lv_at hl 0 rfl) ?_
          refine lv_iload hx hb dX1_write_193 (lv_at hl 2 rfl) ?_
          refine lv_iconst (v := 1) hx hb dX1_write_195 (by decide) ?_
          refine m_cv (rest := []) ⟨hx, hb, hml, hown, hts⟩ (cm_setState l D o cA (zA V 1 (upd (V.1 1) ((32 * k) + a) w)) k (a / 2) 1 (by omega) (by omega)) (cwm_setState hts ⟨by decide, by decide⟩) hw rfl hl.1 rfl (Nat.le_of_ble_eq_true rfl) dX1_write_196 ⟨Nat.zero_le _, Nat.zero_le _⟩ (fun H locs hw => ?_)
          refine lv_iinc (k := 0) (v := nI (k + 1)) (lv' := [(8, .int (nI (k + 1))), (7, .int due), (4, .int (nI (a / 2))), (5, .int ((zF S 4 0).2 1)), (0, .ref (o 0)), (1, .int (nI u)), (2, .int (nI a)), (3, .int w)]) hx hb dX1_write_199 hl rfl (lw_inc k 1) (by decide) rfl (fun ls hl => ?_)
          refine lv_goto (tgt := 151) hx hb dX1_write_202 (by decide) ?_
          exact ih (k + 1) (by omega) _ _ _ _ (lv_sub hl [0, 1, 2, 3, 4, 5, 6, 7] rfl) hw (by rw [← hf]; simp [mUpF, mUp1, g1, g2])
        · refine lv_goto (tgt := 199) hx hb dX1_write_174 (by decide) ?_
          refine lv_iinc (k := 0) (v := nI (k + 1)) (lv' := [(8, .int (nI (k + 1))), (7, .int due), (4, .int (nI (a / 2))), (5, .int ((zF S 4 0).2 1)), (0, .ref (o 0)), (1, .int (nI u)), (2, .int (nI a)), (3, .int w)]) hx hb dX1_write_199 hl rfl (lw_inc k 1) (by decide) rfl (fun ls hl => ?_)
          refine lv_goto (tgt := 151) hx hb dX1_write_202 (by decide) ?_
          exact ih (k + 1) (by omega) _ _ _ _ (lv_sub hl [0, 1, 2, 3, 4, 5, 6, 7] rfl) hw (by rw [← hf]; simp [mUpF, mUp1, g1, g2])
  have mid : ∀ (T : SX) (H : Heap) (locs : List Loc) (ls : Array Slot), lv_has ls 9 [(4, .int (nI (a / 2))), (5, .int ((zF S 4 0).2 1)), (0, .ref (o 0)), (1, .int (nI u)), (2, .int (nI a)), (3, .int w)] → mW D o cA (mA o s.heap.size) s s.heap T H locs → mWrT T u a w = mWr (zF S 4 0) u a w → W P0 l e (rmD 3) s m ([.ref (o 0), .int (nI u), .int (nI a), .int w]).toArray below meth c H locs 0 0 (MQ below (mQi D o cA s.heap.size (mWr (zF S 4 0) u a w) ((mWr (zF S 4 0) u a w).2 1 - S.2 1)) ([.ref (o 0), .int (nI u), .int (nI a), .int w]).toArray s 0 0 (mA o s.heap.size)) (F0 m 75 ls []) := by
    intro T H locs ls hl hw hf
    refine lv_aload_n hx hb dX1_write_75 rfl (lv_at hl 2 rfl) ?_
    refine lv_iload_n hx hb dX1_write_76 rfl (lv_at hl 3 rfl) ?_
    refine lv_iload hx hb dX1_write_77 (lv_at hl 0 rfl) ?_
    refine m_ci (rest := []) ⟨hx, hb, hml, hown, hts⟩ (cm_stateOf l D o cA T u (a / 2) (by omega) (by omega)) (cwm_stateOf hts ⟨by decide, by decide⟩) hw rfl hl.1 rfl (Nat.le_of_ble_eq_true rfl) dX1_write_79 ⟨Nat.zero_le _, Nat.zero_le _⟩ (fun H locs hw => ?_)
    refine lv_istore (lv' := [(6, .int (T.1 0 (16 * u + (a / 2)))), (4, .int (nI (a / 2))), (5, .int ((zF S 4 0).2 1)), (0, .ref (o 0)), (1, .int (nI u)), (2, .int (nI a)), (3, .int w)]) hx hb dX1_write_82 hl (by decide) rfl (fun ls hl => ?_)
    refine lv_iconst (v := 4) hx hb dX1_write_84 (by decide) ?_
    refine lv_istore (lv' := [(7, .int 4), (6, .int (T.1 0 (16 * u + (a / 2)))), (4, .int (nI (a / 2))), (5, .int ((zF S 4 0).2 1)), (0, .ref (o 0)), (1, .int (nI u)), (2, .int (nI a)), (3, .int w)]) hx hb dX1_write_85 hl (by decide) rfl (fun ls hl => ?_)
    refine lv_iload hx hb dX1_write_87 (lv_at hl 1 rfl) ?_
    refine lv_iconst (v := 1) hx hb dX1_write_89 (by decide) ?_
    refine lv_icmp_eq (tgt := 99) hx hb dX1_write_90 (by decide) (fun g3 => ?_) (fun g3 => ?_)
    · refine lv_aload_n hx hb dX1_write_99 rfl (lv_at hl 4 rfl) ?_
      refine lv_aload_n hx hb dX1_write_100 rfl (lv_at hl 4 rfl) ?_
      refine m_ci (rest := [.ref (o 0)]) ⟨hx, hb, hml, hown, hts⟩ (cm_invalidates l D o cA T) (cwm_invalidates hts ⟨by decide, by decide⟩) hw rfl hl.1 rfl (Nat.le_of_ble_eq_true rfl) dX1_write_101 ⟨Nat.zero_le _, Nat.zero_le _⟩ (fun H locs hw => ?_)
      refine lv_if_eq (tgt := 111) hx hb dX1_write_104 (by decide) (fun g4 => ?_) (fun g4 => ?_)
      · have g4 := bI_z.mp g4
        refine lv_iconst (v := 3) hx hb dX1_write_111 (by decide) ?_
        refine lv_iload_n hx hb dX1_write_112 rfl (lv_at hl 5 rfl) ?_
        refine lv_iload hx hb dX1_write_113 (lv_at hl 2 rfl) ?_
        refine m_cv (rest := []) ⟨hx, hb, hml, hown, hts⟩ (cm_transact l D o cA T 3 u (a / 2) (by omega) (by omega) (by omega)) (cwm_transact hts ⟨by decide, by decide⟩) hw rfl hl.1 rfl (Nat.le_of_ble_eq_true rfl) dX1_write_115 ⟨Nat.zero_le _, Nat.zero_le _⟩ (fun H locs hw => ?_)
        refine lv_aload_n hx hb dX1_write_118 rfl (lv_at hl 4 rfl) ?_
        refine m_ci (rest := []) ⟨hx, hb, hml, hown, hts⟩ (cm_invalidates l D o cA (mTr T 3 u (a / 2))) (cwm_invalidates hts ⟨by decide, by decide⟩) hw rfl hl.1 rfl (Nat.le_of_ble_eq_true rfl) dX1_write_119 ⟨Nat.zero_le _, Nat.zero_le _⟩ (fun H locs hw => ?_)
        refine lv_if_eq (tgt := 135) hx hb dX1_write_122 (by decide) (fun _ => ?_) (fun h9 => absurd (bI_z.mpr g4) h9)
        refine lv_aload_n hx hb dX1_write_135 rfl (lv_at hl 4 rfl) ?_
        refine lv_iload_n hx hb dX1_write_136 rfl (lv_at hl 5 rfl) ?_
        refine lv_iload hx hb dX1_write_137 (lv_at hl 2 rfl) ?_
        refine m_ci (rest := []) ⟨hx, hb, hml, hown, hts⟩ (cm_others l D o cA (mTr T 3 u (a / 2)) u (a / 2) (by omega) (by omega)) (cwm_others hts ⟨by decide, by decide⟩) hw rfl hl.1 rfl (Nat.le_of_ble_eq_true rfl) dX1_write_139 ⟨Nat.zero_le _, Nat.zero_le _⟩ (fun H locs hw => ?_)
        have hle := mOtF_le (S := mTr T 3 u (a / 2)) (p := u) (b := a / 2) 4 0 0
        refine lv_if_le (tgt := 148) hx hb dX1_write_142 (by decide) (fun g5 => ?_) (fun g5 => ?_)
        · have g5 : mOtF (mTr T 3 u (a / 2)) u (a / 2) 4 0 0 ≤ 0 := (nI_leI (a := mOtF (mTr T 3 u (a / 2)) u (a / 2) 4 0 0) (b := 0) (by omega) (by omega)).mp g5
          refine lv_iconst (v := 0) hx hb dX1_write_148 (by decide) ?_
          refine lv_istore (lv' := [(8, .int 0), (7, .int 4), (6, .int (T.1 0 (16 * u + (a / 2)))), (4, .int (nI (a / 2))), (5, .int ((zF S 4 0).2 1)), (0, .ref (o 0)), (1, .int (nI u)), (2, .int (nI a)), (3, .int w)]) hx hb dX1_write_149 hl (by decide) rfl (fun ls hl => ?_)
          exact loop 4 4 0 rfl _ _ _ _ (lv_sub hl [0, 1, 3, 4, 5, 6, 7, 8] rfl) hw (by rw [← hf, mWrT, if_pos (show xEl (T.1 0 (16 * u + a / 2)) = true by simp [xEl, g3]), if_pos (by simpa using g4), if_neg (by omega)])
        · have g5 : ¬ mOtF (mTr T 3 u (a / 2)) u (a / 2) 4 0 0 ≤ 0 := fun h9 => g5 ((nI_leI (a := mOtF (mTr T 3 u (a / 2)) u (a / 2) 4 0 0) (b := 0) (by omega) (by omega)).mpr h9)
          refine lv_iconst (v := 3) hx hb dX1_write_145 (by decide) ?_
          refine lv_istore (lv' := [(7, .int 3), (6, .int (T.1 0 (16 * u + (a / 2)))), (4, .int (nI (a / 2))), (5, .int ((zF S 4 0).2 1)), (0, .ref (o 0)), (1, .int (nI u)), (2, .int (nI a)), (3, .int w)]) hx hb dX1_write_146 hl (by decide) rfl (fun ls hl => ?_)
          refine lv_iconst (v := 0) hx hb dX1_write_148 (by decide) ?_
          refine lv_istore (lv' := [(8, .int 0), (7, .int 3), (6, .int (T.1 0 (16 * u + (a / 2)))), (4, .int (nI (a / 2))), (5, .int ((zF S 4 0).2 1)), (0, .ref (o 0)), (1, .int (nI u)), (2, .int (nI a)), (3, .int w)]) hx hb dX1_write_149 hl (by decide) rfl (fun ls hl => ?_)
          exact loop 3 4 0 rfl _ _ _ _ (lv_sub hl [0, 1, 3, 4, 5, 6, 7, 8] rfl) hw (by rw [← hf, mWrT, if_pos (show xEl (T.1 0 (16 * u + a / 2)) = true by simp [xEl, g3]), if_pos (by simpa using g4), if_pos (by omega)])
      · have g4 := bI_n.mp g4
        refine lv_iconst (v := 2) hx hb dX1_write_107 (by decide) ?_
        refine lv_goto (tgt := 112) hx hb dX1_write_108 (by decide) ?_
        refine lv_iload_n hx hb dX1_write_112 rfl (lv_at hl 5 rfl) ?_
        refine lv_iload hx hb dX1_write_113 (lv_at hl 2 rfl) ?_
        refine m_cv (rest := []) ⟨hx, hb, hml, hown, hts⟩ (cm_transact l D o cA T 2 u (a / 2) (by omega) (by omega) (by omega)) (cwm_transact hts ⟨by decide, by decide⟩) hw rfl hl.1 rfl (Nat.le_of_ble_eq_true rfl) dX1_write_115 ⟨Nat.zero_le _, Nat.zero_le _⟩ (fun H locs hw => ?_)
        refine lv_aload_n hx hb dX1_write_118 rfl (lv_at hl 4 rfl) ?_
        refine m_ci (rest := []) ⟨hx, hb, hml, hown, hts⟩ (cm_invalidates l D o cA (mTr T 2 u (a / 2))) (cwm_invalidates hts ⟨by decide, by decide⟩) hw rfl hl.1 rfl (Nat.le_of_ble_eq_true rfl) dX1_write_119 ⟨Nat.zero_le _, Nat.zero_le _⟩ (fun H locs hw => ?_)
        refine lv_if_eq (tgt := 135) hx hb dX1_write_122 (by decide) (fun h9 => absurd h9 (bI_n.mpr g4)) (fun _ => ?_)
        refine lv_aload_n hx hb dX1_write_125 rfl (lv_at hl 4 rfl) ?_
        refine lv_iload_n hx hb dX1_write_126 rfl (lv_at hl 5 rfl) ?_
        refine lv_iload hx hb dX1_write_127 (lv_at hl 2 rfl) ?_
        refine m_cv (rest := []) ⟨hx, hb, hml, hown, hts⟩ (cm_emptyOthers l D o cA (mTr T 2 u (a / 2)) u (a / 2) (by omega) (by omega)) (cwm_emptyOthers hts ⟨by decide, by decide⟩) hw rfl hl.1 rfl (Nat.le_of_ble_eq_true rfl) dX1_write_129 ⟨Nat.zero_le _, Nat.zero_le _⟩ (fun H locs hw => ?_)
        refine lv_goto (tgt := 205) hx hb dX1_write_132 (by decide) ?_
        exact fin 4 _ _ _ _ (lv_sub hl [0, 2, 3, 4, 5, 6, 7] rfl) hw (by rw [← hf, mWrT, if_pos (show xEl (T.1 0 (16 * u + a / 2)) = true by simp [xEl, g3]), if_neg (by simpa using g4)])
    · refine lv_iload hx hb dX1_write_93 (lv_at hl 1 rfl) ?_
      refine lv_iconst (v := 3) hx hb dX1_write_95 (by decide) ?_
      refine lv_icmp_ne (tgt := 205) hx hb dX1_write_96 (by decide) (fun g6 => ?_) (fun g6 => ?_)
      · exact fin 4 _ _ _ _ (lv_sub hl [0, 2, 3, 4, 5, 6, 7] rfl) hw (by rw [← hf, mWrT, if_neg (by simp [xEl, g3, g6])])
      · refine lv_aload_n hx hb dX1_write_99 rfl (lv_at hl 4 rfl) ?_
        refine lv_aload_n hx hb dX1_write_100 rfl (lv_at hl 4 rfl) ?_
        refine m_ci (rest := [.ref (o 0)]) ⟨hx, hb, hml, hown, hts⟩ (cm_invalidates l D o cA T) (cwm_invalidates hts ⟨by decide, by decide⟩) hw rfl hl.1 rfl (Nat.le_of_ble_eq_true rfl) dX1_write_101 ⟨Nat.zero_le _, Nat.zero_le _⟩ (fun H locs hw => ?_)
        refine lv_if_eq (tgt := 111) hx hb dX1_write_104 (by decide) (fun g7 => ?_) (fun g7 => ?_)
        · have g7 := bI_z.mp g7
          refine lv_iconst (v := 3) hx hb dX1_write_111 (by decide) ?_
          refine lv_iload_n hx hb dX1_write_112 rfl (lv_at hl 5 rfl) ?_
          refine lv_iload hx hb dX1_write_113 (lv_at hl 2 rfl) ?_
          refine m_cv (rest := []) ⟨hx, hb, hml, hown, hts⟩ (cm_transact l D o cA T 3 u (a / 2) (by omega) (by omega) (by omega)) (cwm_transact hts ⟨by decide, by decide⟩) hw rfl hl.1 rfl (Nat.le_of_ble_eq_true rfl) dX1_write_115 ⟨Nat.zero_le _, Nat.zero_le _⟩ (fun H locs hw => ?_)
          refine lv_aload_n hx hb dX1_write_118 rfl (lv_at hl 4 rfl) ?_
          refine m_ci (rest := []) ⟨hx, hb, hml, hown, hts⟩ (cm_invalidates l D o cA (mTr T 3 u (a / 2))) (cwm_invalidates hts ⟨by decide, by decide⟩) hw rfl hl.1 rfl (Nat.le_of_ble_eq_true rfl) dX1_write_119 ⟨Nat.zero_le _, Nat.zero_le _⟩ (fun H locs hw => ?_)
          refine lv_if_eq (tgt := 135) hx hb dX1_write_122 (by decide) (fun _ => ?_) (fun h9 => absurd (bI_z.mpr g7) h9)
          refine lv_aload_n hx hb dX1_write_135 rfl (lv_at hl 4 rfl) ?_
          refine lv_iload_n hx hb dX1_write_136 rfl (lv_at hl 5 rfl) ?_
          refine lv_iload hx hb dX1_write_137 (lv_at hl 2 rfl) ?_
          refine m_ci (rest := []) ⟨hx, hb, hml, hown, hts⟩ (cm_others l D o cA (mTr T 3 u (a / 2)) u (a / 2) (by omega) (by omega)) (cwm_others hts ⟨by decide, by decide⟩) hw rfl hl.1 rfl (Nat.le_of_ble_eq_true rfl) dX1_write_139 ⟨Nat.zero_le _, Nat.zero_le _⟩ (fun H locs hw => ?_)
          have hle := mOtF_le (S := mTr T 3 u (a / 2)) (p := u) (b := a / 2) 4 0 0
          refine lv_if_le (tgt := 148) hx hb dX1_write_142 (by decide) (fun g8 => ?_) (fun g8 => ?_)
          · have g8 : mOtF (mTr T 3 u (a / 2)) u (a / 2) 4 0 0 ≤ 0 := (nI_leI (a := mOtF (mTr T 3 u (a / 2)) u (a / 2) 4 0 0) (b := 0) (by omega) (by omega)).mp g8
            refine lv_iconst (v := 0) hx hb dX1_write_148 (by decide) ?_
            refine lv_istore (lv' := [(8, .int 0), (7, .int 4), (6, .int (T.1 0 (16 * u + (a / 2)))), (4, .int (nI (a / 2))), (5, .int ((zF S 4 0).2 1)), (0, .ref (o 0)), (1, .int (nI u)), (2, .int (nI a)), (3, .int w)]) hx hb dX1_write_149 hl (by decide) rfl (fun ls hl => ?_)
            exact loop 4 4 0 rfl _ _ _ _ (lv_sub hl [0, 1, 3, 4, 5, 6, 7, 8] rfl) hw (by rw [← hf, mWrT, if_pos (show xEl (T.1 0 (16 * u + a / 2)) = true by simp [xEl, g3, g6]), if_pos (by simpa using g7), if_neg (by omega)])
          · have g8 : ¬ mOtF (mTr T 3 u (a / 2)) u (a / 2) 4 0 0 ≤ 0 := fun h9 => g8 ((nI_leI (a := mOtF (mTr T 3 u (a / 2)) u (a / 2) 4 0 0) (b := 0) (by omega) (by omega)).mpr h9)
            refine lv_iconst (v := 3) hx hb dX1_write_145 (by decide) ?_
            refine lv_istore (lv' := [(7, .int 3), (6, .int (T.1 0 (16 * u + (a / 2)))), (4, .int (nI (a / 2))), (5, .int ((zF S 4 0).2 1)), (0, .ref (o 0)), (1, .int (nI u)), (2, .int (nI a)), (3, .int w)]) hx hb dX1_write_146 hl (by decide) rfl (fun ls hl => ?_)
            refine lv_iconst (v := 0) hx hb dX1_write_148 (by decide) ?_
            refine lv_istore (lv' := [(8, .int 0), (7, .int 3), (6, .int (T.1 0 (16 * u + (a / 2)))), (4, .int (nI (a / 2))), (5, .int ((zF S 4 0).2 1)), (0, .ref (o 0)), (1, .int (nI u)), (2, .int (nI a)), (3, .int w)]) hx hb dX1_write_149 hl (by decide) rfl (fun ls hl => ?_)
            exact loop 3 4 0 rfl _ _ _ _ (lv_sub hl [0, 1, 3, 4, 5, 6, 7, 8] rfl) hw (by rw [← hf, mWrT, if_pos (show xEl (T.1 0 (16 * u + a / 2)) = true by simp [xEl, g3, g6]), if_pos (by simpa using g7), if_pos (by omega)])
        · have g7 := bI_n.mp g7
          refine lv_iconst (v := 2) hx hb dX1_write_107 (by decide) ?_
          refine lv_goto (tgt := 112) hx hb dX1_write_108 (by decide) ?_
          refine lv_iload_n hx hb dX1_write_112 rfl (lv_at hl 5 rfl) ?_
          refine lv_iload hx hb dX1_write_113 (lv_at hl 2 rfl) ?_
          refine m_cv (rest := []) ⟨hx, hb, hml, hown, hts⟩ (cm_transact l D o cA T 2 u (a / 2) (by omega) (by omega) (by omega)) (cwm_transact hts ⟨by decide, by decide⟩) hw rfl hl.1 rfl (Nat.le_of_ble_eq_true rfl) dX1_write_115 ⟨Nat.zero_le _, Nat.zero_le _⟩ (fun H locs hw => ?_)
          refine lv_aload_n hx hb dX1_write_118 rfl (lv_at hl 4 rfl) ?_
          refine m_ci (rest := []) ⟨hx, hb, hml, hown, hts⟩ (cm_invalidates l D o cA (mTr T 2 u (a / 2))) (cwm_invalidates hts ⟨by decide, by decide⟩) hw rfl hl.1 rfl (Nat.le_of_ble_eq_true rfl) dX1_write_119 ⟨Nat.zero_le _, Nat.zero_le _⟩ (fun H locs hw => ?_)
          refine lv_if_eq (tgt := 135) hx hb dX1_write_122 (by decide) (fun h9 => absurd h9 (bI_n.mpr g7)) (fun _ => ?_)
          refine lv_aload_n hx hb dX1_write_125 rfl (lv_at hl 4 rfl) ?_
          refine lv_iload_n hx hb dX1_write_126 rfl (lv_at hl 5 rfl) ?_
          refine lv_iload hx hb dX1_write_127 (lv_at hl 2 rfl) ?_
          refine m_cv (rest := []) ⟨hx, hb, hml, hown, hts⟩ (cm_emptyOthers l D o cA (mTr T 2 u (a / 2)) u (a / 2) (by omega) (by omega)) (cwm_emptyOthers hts ⟨by decide, by decide⟩) hw rfl hl.1 rfl (Nat.le_of_ble_eq_true rfl) dX1_write_129 ⟨Nat.zero_le _, Nat.zero_le _⟩ (fun H locs hw => ?_)
          refine lv_goto (tgt := 205) hx hb dX1_write_132 (by decide) ?_
          exact fin 4 _ _ _ _ (lv_sub hl [0, 2, 3, 4, 5, 6, 7] rfl) hw (by rw [← hf, mWrT, if_pos (show xEl (T.1 0 (16 * u + a / 2)) = true by simp [xEl, g3, g6]), if_neg (by simpa using g7)])
  refine lv_aload_n hx hb dX1_write_0 rfl (lv_at hl 0 rfl) ?_
  refine lv_iload_n hx hb dX1_write_1 rfl (lv_at hl 1 rfl) ?_
  refine lv_iconst (v := 3) hx hb dX1_write_2 (by decide) ?_
  refine m_cs (rest := [.ref (o 0)]) ⟨hx, hb, hml, hown, hts⟩ (cm_within l (nI u) 3) (cwm_within hts ⟨by decide, by decide⟩) hw rfl hl.1 rfl (Nat.le_of_ble_eq_true rfl) dX1_write_3 ⟨Nat.zero_le _, Nat.zero_le _⟩ (fun H locs hw => ?_)
  refine lv_if_eq (tgt := 22) hx hb dX1_write_6 (by decide) (fun h9 => absurd h9 (bI_n.mpr (inW_t (n := 3) hu (by decide)))) (fun _ => ?_)
  refine lv_iload_n hx hb dX1_write_9 rfl (lv_at hl 2 rfl) ?_
  refine lv_bipush (v := 31) hx hb dX1_write_10 (by decide) ?_
  refine m_cs (rest := [.ref (o 0)]) ⟨hx, hb, hml, hown, hts⟩ (cm_within l (nI a) 31) (cwm_within hts ⟨by decide, by decide⟩) hw rfl hl.1 rfl (Nat.le_of_ble_eq_true rfl) dX1_write_12 ⟨Nat.zero_le _, Nat.zero_le _⟩ (fun H locs hw => ?_)
  refine lv_if_eq (tgt := 22) hx hb dX1_write_15 (by decide) (fun h9 => absurd h9 (bI_n.mpr (inW_t (n := 31) ha (by decide)))) (fun _ => ?_)
  refine lv_iconst (v := 0) hx hb dX1_write_18 (by decide) ?_
  refine lv_goto (tgt := 23) hx hb dX1_write_19 (by decide) ?_
  refine m_p4 (x := 0) hx hb hts hown hw dX1_write_23 (fun H locs hw => ?_)
  refine lv_aload_n hx hb dX1_write_26 rfl (lv_at hl 0 rfl) ?_
  refine m_f4 hx hb hts hown hw dX1_write_27 ?_
  refine lv_if_le (tgt := 35) hx hb dX1_write_30 (by decide) (fun _ => ?_) (fun h9 => absurd ((by rw [zF_s]; decide)) h9)
  refine lv_iload_n hx hb dX1_write_35 rfl (lv_at hl 2 rfl) ?_
  refine lv_iconst (v := 2) hx hb dX1_write_36 (by decide) ?_
  refine lv_idiv hx hb dX1_write_37 (by decide) ?_
  refine lw_top (y := nI (a / 2)) (pk_div (a := a) (d := 2) (by omega) (by decide) (by decide)) ?_
  refine lv_istore (lv' := [(4, .int (nI (a / 2))), (0, .ref (o 0)), (1, .int (nI u)), (2, .int (nI a)), (3, .int w)]) hx hb dX1_write_38 hl (by decide) rfl (fun ls hl => ?_)
  refine lv_aload_n hx hb dX1_write_40 rfl (lv_at hl 1 rfl) ?_
  refine m_f1 hx hb hts hown hw dX1_write_41 ?_
  refine lv_istore (lv' := [(5, .int ((zF S 4 0).2 1)), (4, .int (nI (a / 2))), (0, .ref (o 0)), (1, .int (nI u)), (2, .int (nI a)), (3, .int w)]) hx hb dX1_write_44 hl (by decide) rfl (fun ls hl => ?_)
  refine lv_aload_n hx hb dX1_write_46 rfl (lv_at hl 2 rfl) ?_
  refine lv_iload_n hx hb dX1_write_47 rfl (lv_at hl 3 rfl) ?_
  refine lv_iload hx hb dX1_write_48 (lv_at hl 1 rfl) ?_
  refine m_ci (rest := []) ⟨hx, hb, hml, hown, hts⟩ (cm_hit l D o cA (zF S 4 0) u (a / 2) (by omega) (by omega)) (cwm_hit hts ⟨by decide, by decide⟩) hw rfl hl.1 rfl (Nat.le_of_ble_eq_true rfl) dX1_write_50 ⟨Nat.zero_le _, Nat.zero_le _⟩ (fun H locs hw => ?_)
  refine lv_if_ne (tgt := 75) hx hb dX1_write_53 (by decide) (fun g9 => ?_) (fun g9 => ?_)
  · have g9 := bI_n.mp g9
    exact mid _ _ _ _ (lv_sub hl [1, 0, 2, 3, 4, 5] rfl) hw (by rw [mWr, mWrB, if_pos g9])
  · have g9 := bI_z.mp g9
    refine lv_aload_n hx hb dX1_write_56 rfl (lv_at hl 2 rfl) ?_
    refine lv_iload_n hx hb dX1_write_57 rfl (lv_at hl 3 rfl) ?_
    refine lv_iload hx hb dX1_write_58 (lv_at hl 1 rfl) ?_
    refine lv_aload_n hx hb dX1_write_60 rfl (lv_at hl 2 rfl) ?_
    refine m_ci (rest := [.int (nI (a / 2)), .int (nI u), .ref (o 0)]) ⟨hx, hb, hml, hown, hts⟩ (cm_invalidates l D o cA (mHi (zF S 4 0) u (a / 2))) (cwm_invalidates hts ⟨by decide, by decide⟩) hw rfl hl.1 rfl (Nat.le_of_ble_eq_true rfl) dX1_write_61 ⟨Nat.zero_le _, Nat.zero_le _⟩ (fun H locs hw => ?_)
    refine lv_if_eq (tgt := 71) hx hb dX1_write_64 (by decide) (fun g10 => ?_) (fun g10 => ?_)
    · have g10 := bI_z.mp g10
      refine lv_iconst (v := 0) hx hb dX1_write_71 (by decide) ?_
      refine m_cv (rest := []) ⟨hx, hb, hml, hown, hts⟩ (cm_load l D o cA (mHi (zF S 4 0) u (a / 2)) u (a / 2) 0 (by omega) (by omega) (by omega)) (cwm_load hts ⟨by decide, by decide⟩) hw rfl hl.1 rfl (Nat.le_of_ble_eq_true rfl) dX1_write_72 ⟨Nat.zero_le _, Nat.zero_le _⟩ (fun H locs hw => ?_)
      exact mid _ _ _ _ (lv_sub hl [1, 0, 2, 3, 4, 5] rfl) hw (by rw [mWr, mWrB, if_neg (by rw [g9]; decide), if_pos (by simpa using g10)])
    · have g10 := bI_n.mp g10
      refine lv_iconst (v := 1) hx hb dX1_write_67 (by decide) ?_
      refine lv_goto (tgt := 72) hx hb dX1_write_68 (by decide) ?_
      refine m_cv (rest := []) ⟨hx, hb, hml, hown, hts⟩ (cm_load l D o cA (mHi (zF S 4 0) u (a / 2)) u (a / 2) 1 (by omega) (by omega) (by omega)) (cwm_load hts ⟨by decide, by decide⟩) hw rfl hl.1 rfl (Nat.le_of_ble_eq_true rfl) dX1_write_72 ⟨Nat.zero_le _, Nat.zero_le _⟩ (fun H locs hw => ?_)
      exact mid _ _ _ _ (lv_sub hl [1, 0, 2, 3, 4, 5] rfl) hw (by rw [mWr, mWrB, if_neg (by rw [g9]; decide), if_neg (by simpa using g10)])
set_option maxRecDepth 100000 in
set_option maxHeartbeats 4000000 in
theorem cm_evict_bad (l : Launch) (D : va_G) (o : Nat → Nat) (cA : ClassId) (S : SX) (x y : Int32) (hbad : (inW x 3 && inW y 15) = false) : mMi l D o cA yX1_evict cX1_evict 3 (some .boolean) 1 [.ref (o 0), .int x, .int y] S (zF S 4 1) (bI false) := by
  intro sz
  refine m_met (by decide) rfl (Nat.le_of_ble_eq_true rfl) ?_
  intro P0 e s m below meth c ls hsz hx hb hml hr hlocks hown hts hl hw
  subst hsz
  have hl : lv_has ls 3 [(0, .ref (o 0)), (1, .int x), (2, .int y)] := hl
  refine lv_aload_n hx hb dX1_evict_0 rfl (lv_at hl 0 rfl) ?_
  refine lv_iload_n hx hb dX1_evict_1 rfl (lv_at hl 1 rfl) ?_
  refine lv_iconst (v := 3) hx hb dX1_evict_2 (by decide) ?_
  refine m_cs (rest := [.ref (o 0)]) ⟨hx, hb, hml, hown, hts⟩ (cm_within l x 3) (cwm_within hts ⟨by decide, by decide⟩) hw rfl hl.1 rfl (Nat.le_of_ble_eq_true rfl) dX1_evict_3 ⟨Nat.zero_le _, Nat.zero_le _⟩ (fun H locs hw => ?_)
  refine lv_if_eq (tgt := 18) hx hb dX1_evict_6 (by decide) (fun g1 => ?_) (fun g1 => ?_)
  · have g1 := bI_z.mp g1
    refine lv_iconst (v := 1) hx hb dX1_evict_18 (by decide) ?_
    refine lv_goto (tgt := 36) hx hb dX1_evict_19 (by decide) ?_
    refine m_p4 (x := 1) hx hb hts hown hw dX1_evict_36 (fun H locs hw => ?_)
    refine lv_aload_n hx hb dX1_evict_39 rfl (lv_at hl 0 rfl) ?_
    refine m_f4 hx hb hts hown hw dX1_evict_40 ?_
    refine lv_if_ne (tgt := 59) hx hb dX1_evict_43 (by decide) (fun _ => ?_) (fun h9 => absurd h9 ((by rw [zF_s]; decide)))
    refine lv_iconst (v := 0) hx hb dX1_evict_59 (by decide) ?_
    exact m_retz hx hb hr hlocks hw ⟨rfl, rfl⟩ dX1_evict_60
  · have g1 := bI_n.mp g1
    refine lv_iload_n hx hb dX1_evict_9 rfl (lv_at hl 2 rfl) ?_
    refine lv_bipush (v := 15) hx hb dX1_evict_10 (by decide) ?_
    refine m_cs (rest := [.ref (o 0)]) ⟨hx, hb, hml, hown, hts⟩ (cm_within l y 15) (cwm_within hts ⟨by decide, by decide⟩) hw rfl hl.1 rfl (Nat.le_of_ble_eq_true rfl) dX1_evict_12 ⟨Nat.zero_le _, Nat.zero_le _⟩ (fun H locs hw => ?_)
    refine lv_if_ne (tgt := 22) hx hb dX1_evict_15 (by decide) (fun h9 => absurd h9 (fun h8 => h8 (bI_z.mpr (by rw [g1, Bool.true_and] at hbad; exact hbad)))) (fun _ => ?_)
    refine lv_iconst (v := 1) hx hb dX1_evict_18 (by decide) ?_
    refine lv_goto (tgt := 36) hx hb dX1_evict_19 (by decide) ?_
    refine m_p4 (x := 1) hx hb hts hown hw dX1_evict_36 (fun H locs hw => ?_)
    refine lv_aload_n hx hb dX1_evict_39 rfl (lv_at hl 0 rfl) ?_
    refine m_f4 hx hb hts hown hw dX1_evict_40 ?_
    refine lv_if_ne (tgt := 59) hx hb dX1_evict_43 (by decide) (fun _ => ?_) (fun h9 => absurd h9 ((by rw [zF_s]; decide)))
    refine lv_iconst (v := 0) hx hb dX1_evict_59 (by decide) ?_
    exact m_retz hx hb hr hlocks hw ⟨rfl, rfl⟩ dX1_evict_60
set_option maxRecDepth 100000 in
set_option maxHeartbeats 4000000 in
theorem cm_evict_no (l : Launch) (D : va_G) (o : Nat → Nat) (cA : ClassId) (S : SX) (u b : Nat) (hu : u < 4) (hbb : b < 16) (hz : S.1 0 (16 * u + b) = 0) : mMi l D o cA yX1_evict cX1_evict 3 (some .boolean) 2 [.ref (o 0), .int (nI u), .int (nI b)] S (zF S 4 2) (bI false) := by
  intro sz
  refine m_met (by decide) rfl (Nat.le_of_ble_eq_true rfl) ?_
  intro P0 e s m below meth c ls hsz hx hb hml hr hlocks hown hts hl hw
  subst hsz
  have hl : lv_has ls 3 [(0, .ref (o 0)), (1, .int (nI u)), (2, .int (nI b))] := hl
  refine lv_aload_n hx hb dX1_evict_0 rfl (lv_at hl 0 rfl) ?_
  refine lv_iload_n hx hb dX1_evict_1 rfl (lv_at hl 1 rfl) ?_
  refine lv_iconst (v := 3) hx hb dX1_evict_2 (by decide) ?_
  refine m_cs (rest := [.ref (o 0)]) ⟨hx, hb, hml, hown, hts⟩ (cm_within l (nI u) 3) (cwm_within hts ⟨by decide, by decide⟩) hw rfl hl.1 rfl (Nat.le_of_ble_eq_true rfl) dX1_evict_3 ⟨Nat.zero_le _, Nat.zero_le _⟩ (fun H locs hw => ?_)
  refine lv_if_eq (tgt := 18) hx hb dX1_evict_6 (by decide) (fun h9 => absurd h9 (bI_n.mpr (inW_t (n := 3) hu (by decide)))) (fun _ => ?_)
  refine lv_iload_n hx hb dX1_evict_9 rfl (lv_at hl 2 rfl) ?_
  refine lv_bipush (v := 15) hx hb dX1_evict_10 (by decide) ?_
  refine m_cs (rest := [.ref (o 0)]) ⟨hx, hb, hml, hown, hts⟩ (cm_within l (nI b) 15) (cwm_within hts ⟨by decide, by decide⟩) hw rfl hl.1 rfl (Nat.le_of_ble_eq_true rfl) dX1_evict_12 ⟨Nat.zero_le _, Nat.zero_le _⟩ (fun H locs hw => ?_)
  refine lv_if_ne (tgt := 22) hx hb dX1_evict_15 (by decide) (fun _ => ?_) (fun h9 => absurd h9 (bI_n.mpr (inW_t (n := 15) hbb (by decide))))
  refine lv_aload_n hx hb dX1_evict_22 rfl (lv_at hl 0 rfl) ?_
  refine lv_iload_n hx hb dX1_evict_23 rfl (lv_at hl 1 rfl) ?_
  refine lv_iload_n hx hb dX1_evict_24 rfl (lv_at hl 2 rfl) ?_
  refine m_ci (rest := [.ref (o 0)]) ⟨hx, hb, hml, hown, hts⟩ (cm_stateOf l D o cA S u b (by omega) (by omega)) (cwm_stateOf hts ⟨by decide, by decide⟩) hw rfl hl.1 rfl (Nat.le_of_ble_eq_true rfl) dX1_evict_25 ⟨Nat.zero_le _, Nat.zero_le _⟩ (fun H locs hw => ?_)
  refine lv_if_ne (tgt := 35) hx hb dX1_evict_28 (by decide) (fun h9 => absurd h9 (fun h8 => h8 hz)) (fun _ => ?_)
  refine lv_iconst (v := 2) hx hb dX1_evict_31 (by decide) ?_
  refine lv_goto (tgt := 36) hx hb dX1_evict_32 (by decide) ?_
  refine m_p4 (x := 2) hx hb hts hown hw dX1_evict_36 (fun H locs hw => ?_)
  refine lv_aload_n hx hb dX1_evict_39 rfl (lv_at hl 0 rfl) ?_
  refine m_f4 hx hb hts hown hw dX1_evict_40 ?_
  refine lv_if_ne (tgt := 59) hx hb dX1_evict_43 (by decide) (fun _ => ?_) (fun h9 => absurd h9 ((by rw [zF_s]; decide)))
  refine lv_iconst (v := 0) hx hb dX1_evict_59 (by decide) ?_
  exact m_retz hx hb hr hlocks hw ⟨rfl, rfl⟩ dX1_evict_60
set_option maxRecDepth 100000 in
set_option maxHeartbeats 4000000 in
theorem cm_evict (l : Launch) (D : va_G) (o : Nat → Nat) (cA : ClassId) (S : SX) (u b : Nat) (hu : u < 4) (hbb : b < 16) (hz : ¬ S.1 0 (16 * u + b) = 0) : mMi l D o cA yX1_evict cX1_evict 3 (some .boolean) 2 [.ref (o 0), .int (nI u), .int (nI b)] S (mEm (zF S 4 0) u b) (bI (mDi (S.1 0 (16 * u + b)))) := by
  intro sz
  refine m_met (by decide) rfl (Nat.le_of_ble_eq_true rfl) ?_
  intro P0 e s m below meth c ls hsz hx hb hml hr hlocks hown hts hl hw
  subst hsz
  have hl : lv_has ls 3 [(0, .ref (o 0)), (1, .int (nI u)), (2, .int (nI b))] := hl
  refine lv_aload_n hx hb dX1_evict_0 rfl (lv_at hl 0 rfl) ?_
  refine lv_iload_n hx hb dX1_evict_1 rfl (lv_at hl 1 rfl) ?_
  refine lv_iconst (v := 3) hx hb dX1_evict_2 (by decide) ?_
  refine m_cs (rest := [.ref (o 0)]) ⟨hx, hb, hml, hown, hts⟩ (cm_within l (nI u) 3) (cwm_within hts ⟨by decide, by decide⟩) hw rfl hl.1 rfl (Nat.le_of_ble_eq_true rfl) dX1_evict_3 ⟨Nat.zero_le _, Nat.zero_le _⟩ (fun H locs hw => ?_)
  refine lv_if_eq (tgt := 18) hx hb dX1_evict_6 (by decide) (fun h9 => absurd h9 (bI_n.mpr (inW_t (n := 3) hu (by decide)))) (fun _ => ?_)
  refine lv_iload_n hx hb dX1_evict_9 rfl (lv_at hl 2 rfl) ?_
  refine lv_bipush (v := 15) hx hb dX1_evict_10 (by decide) ?_
  refine m_cs (rest := [.ref (o 0)]) ⟨hx, hb, hml, hown, hts⟩ (cm_within l (nI b) 15) (cwm_within hts ⟨by decide, by decide⟩) hw rfl hl.1 rfl (Nat.le_of_ble_eq_true rfl) dX1_evict_12 ⟨Nat.zero_le _, Nat.zero_le _⟩ (fun H locs hw => ?_)
  refine lv_if_ne (tgt := 22) hx hb dX1_evict_15 (by decide) (fun _ => ?_) (fun h9 => absurd h9 (bI_n.mpr (inW_t (n := 15) hbb (by decide))))
  refine lv_aload_n hx hb dX1_evict_22 rfl (lv_at hl 0 rfl) ?_
  refine lv_iload_n hx hb dX1_evict_23 rfl (lv_at hl 1 rfl) ?_
  refine lv_iload_n hx hb dX1_evict_24 rfl (lv_at hl 2 rfl) ?_
  refine m_ci (rest := [.ref (o 0)]) ⟨hx, hb, hml, hown, hts⟩ (cm_stateOf l D o cA S u b (by omega) (by omega)) (cwm_stateOf hts ⟨by decide, by decide⟩) hw rfl hl.1 rfl (Nat.le_of_ble_eq_true rfl) dX1_evict_25 ⟨Nat.zero_le _, Nat.zero_le _⟩ (fun H locs hw => ?_)
  refine lv_if_ne (tgt := 35) hx hb dX1_evict_28 (by decide) (fun _ => ?_) (fun h9 => absurd h9 (hz))
  refine lv_iconst (v := 0) hx hb dX1_evict_35 (by decide) ?_
  refine m_p4 (x := 0) hx hb hts hown hw dX1_evict_36 (fun H locs hw => ?_)
  refine lv_aload_n hx hb dX1_evict_39 rfl (lv_at hl 0 rfl) ?_
  refine m_f4 hx hb hts hown hw dX1_evict_40 ?_
  refine lv_if_ne (tgt := 59) hx hb dX1_evict_43 (by decide) (fun h9 => absurd h9 ((by rw [zF_s]; decide))) (fun _ => ?_)
  refine lv_aload_n hx hb dX1_evict_46 rfl (lv_at hl 0 rfl) ?_
  refine lv_iload_n hx hb dX1_evict_47 rfl (lv_at hl 1 rfl) ?_
  refine lv_iload_n hx hb dX1_evict_48 rfl (lv_at hl 2 rfl) ?_
  refine m_ci (rest := []) ⟨hx, hb, hml, hown, hts⟩ (cm_empty l D o cA (zF S 4 0) u b (by omega) (by omega)) (cwm_empty hts ⟨by decide, by decide⟩) hw rfl hl.1 rfl (Nat.le_of_ble_eq_true rfl) dX1_evict_49 ⟨Nat.zero_le _, Nat.zero_le _⟩ (fun H locs hw => ?_)
  refine lv_if_eq (tgt := 59) hx hb dX1_evict_52 (by decide) (fun g1 => ?_) (fun g1 => ?_)
  · have g1 := bI_z.mp g1
    refine lv_iconst (v := 0) hx hb dX1_evict_59 (by decide) ?_
    exact m_retz hx hb hr hlocks hw ⟨by rw [show S.1 0 = (zF S 4 0).1 0 from rfl, g1]; rfl, rfl⟩ dX1_evict_60
  · have g1 := bI_n.mp g1
    refine lv_iconst (v := 1) hx hb dX1_evict_55 (by decide) ?_
    refine lv_goto (tgt := 60) hx hb dX1_evict_56 (by decide) ?_
    exact m_retz hx hb hr hlocks hw ⟨by rw [show S.1 0 = (zF S 4 0).1 0 from rfl, g1]; rfl, rfl⟩ dX1_evict_60
set_option maxRecDepth 100000 in
set_option maxHeartbeats 4000000 in
theorem cm_state (l : Launch) (D : va_G) (o : Nat → Nat) (cA : ClassId) (S : SX) (x y : Int32)  : mMi l D o cA yX1_state cX1_state 3 (some .int) 1 [.ref (o 0), .int x, .int y] S (S) (mStV S x y) := by
  intro sz
  refine m_met (by decide) rfl (Nat.le_of_ble_eq_true rfl) ?_
  intro P0 e s m below meth c ls hsz hx hb hml hr hlocks hown hts hl hw
  subst hsz
  have hl : lv_has ls 3 [(0, .ref (o 0)), (1, .int x), (2, .int y)] := hl
  refine lv_iload_n hx hb dX1_state_0 rfl (lv_at hl 1 rfl) ?_
  refine lv_iconst (v := 3) hx hb dX1_state_1 (by decide) ?_
  refine m_cs (rest := []) ⟨hx, hb, hml, hown, hts⟩ (cm_within l x 3) (cwm_within hts ⟨by decide, by decide⟩) hw rfl hl.1 rfl (Nat.le_of_ble_eq_true rfl) dX1_state_2 ⟨Nat.zero_le _, Nat.zero_le _⟩ (fun H locs hw => ?_)
  refine lv_if_eq (tgt := 26) hx hb dX1_state_5 (by decide) (fun g1 => ?_) (fun g1 => ?_)
  · have g1 := bI_z.mp g1
    refine lv_iconst (v := -1) hx hb dX1_state_26 (by decide) ?_
    exact m_reti hx hb hr hlocks hw ⟨by simp [mStV, g1], rfl⟩ dX1_state_27
  · have g1 := bI_n.mp g1
    refine lv_iload_n hx hb dX1_state_8 rfl (lv_at hl 2 rfl) ?_
    refine lv_bipush (v := 15) hx hb dX1_state_9 (by decide) ?_
    refine m_cs (rest := []) ⟨hx, hb, hml, hown, hts⟩ (cm_within l y 15) (cwm_within hts ⟨by decide, by decide⟩) hw rfl hl.1 rfl (Nat.le_of_ble_eq_true rfl) dX1_state_11 ⟨Nat.zero_le _, Nat.zero_le _⟩ (fun H locs hw => ?_)
    refine lv_if_eq (tgt := 26) hx hb dX1_state_14 (by decide) (fun g2 => ?_) (fun g2 => ?_)
    · have g2 := bI_z.mp g2
      refine lv_iconst (v := -1) hx hb dX1_state_26 (by decide) ?_
      exact m_reti hx hb hr hlocks hw ⟨by simp [mStV, g1, g2], rfl⟩ dX1_state_27
    · have g2 := bI_n.mp g2
      obtain ⟨u, hu, rfl⟩ := inW_of (n := 3) (by decide) g1
      obtain ⟨v, hv, rfl⟩ := inW_of (n := 15) (by decide) g2
      refine lv_aload_n hx hb dX1_state_17 rfl (lv_at hl 0 rfl) ?_
      refine lv_iload_n hx hb dX1_state_18 rfl (lv_at hl 1 rfl) ?_
      refine lv_iload_n hx hb dX1_state_19 rfl (lv_at hl 2 rfl) ?_
      refine m_ci (rest := []) ⟨hx, hb, hml, hown, hts⟩ (cm_stateOf l D o cA S u v (by omega) (by omega)) (cwm_stateOf hts ⟨by decide, by decide⟩) hw rfl hl.1 rfl (Nat.le_of_ble_eq_true rfl) dX1_state_20 ⟨Nat.zero_le _, Nat.zero_le _⟩ (fun H locs hw => ?_)
      refine lv_goto (tgt := 27) hx hb dX1_state_23 (by decide) ?_
      exact m_reti hx hb hr hlocks hw ⟨by simp [mStV, nI_clamp (show u < 2 ^ 31 by omega), nI_clamp (show v < 2 ^ 31 by omega), g1, g2], rfl⟩ dX1_state_27
set_option maxRecDepth 100000 in
set_option maxHeartbeats 4000000 in
theorem cm_cached (l : Launch) (D : va_G) (o : Nat → Nat) (cA : ClassId) (S : SX) (x y : Int32)  : mMi l D o cA yX1_cached cX1_cached 3 (some .int) 1 [.ref (o 0), .int x, .int y] S (S) (mCaV S x y) := by
  intro sz
  refine m_met (by decide) rfl (Nat.le_of_ble_eq_true rfl) ?_
  intro P0 e s m below meth c ls hsz hx hb hml hr hlocks hown hts hl hw
  subst hsz
  have hl : lv_has ls 3 [(0, .ref (o 0)), (1, .int x), (2, .int y)] := hl
  refine lv_iload_n hx hb dX1_cached_0 rfl (lv_at hl 1 rfl) ?_
  refine lv_iconst (v := 3) hx hb dX1_cached_1 (by decide) ?_
  refine m_cs (rest := []) ⟨hx, hb, hml, hown, hts⟩ (cm_within l x 3) (cwm_within hts ⟨by decide, by decide⟩) hw rfl hl.1 rfl (Nat.le_of_ble_eq_true rfl) dX1_cached_2 ⟨Nat.zero_le _, Nat.zero_le _⟩ (fun H locs hw => ?_)
  refine lv_if_eq (tgt := 28) hx hb dX1_cached_5 (by decide) (fun g1 => ?_) (fun g1 => ?_)
  · have g1 := bI_z.mp g1
    refine lv_iconst (v := 0) hx hb dX1_cached_28 (by decide) ?_
    exact m_reti hx hb hr hlocks hw ⟨by simp [mCaV, g1], rfl⟩ dX1_cached_29
  · have g1 := bI_n.mp g1
    refine lv_iload_n hx hb dX1_cached_8 rfl (lv_at hl 2 rfl) ?_
    refine lv_bipush (v := 31) hx hb dX1_cached_9 (by decide) ?_
    refine m_cs (rest := []) ⟨hx, hb, hml, hown, hts⟩ (cm_within l y 31) (cwm_within hts ⟨by decide, by decide⟩) hw rfl hl.1 rfl (Nat.le_of_ble_eq_true rfl) dX1_cached_11 ⟨Nat.zero_le _, Nat.zero_le _⟩ (fun H locs hw => ?_)
    refine lv_if_eq (tgt := 28) hx hb dX1_cached_14 (by decide) (fun g2 => ?_) (fun g2 => ?_)
    · have g2 := bI_z.mp g2
      refine lv_iconst (v := 0) hx hb dX1_cached_28 (by decide) ?_
      exact m_reti hx hb hr hlocks hw ⟨by simp [mCaV, g1, g2], rfl⟩ dX1_cached_29
    · have g2 := bI_n.mp g2
      obtain ⟨u, hu, rfl⟩ := inW_of (n := 3) (by decide) g1
      obtain ⟨v, hv, rfl⟩ := inW_of (n := 31) (by decide) g2
      refine lv_aload_n hx hb dX1_cached_17 rfl (lv_at hl 0 rfl) ?_
      refine lv_iload_n hx hb dX1_cached_18 rfl (lv_at hl 1 rfl) ?_
      refine lv_iload_n hx hb dX1_cached_19 rfl (lv_at hl 2 rfl) ?_
      refine lv_iconst (v := 2) hx hb dX1_cached_20 (by decide) ?_
      refine lv_idiv hx hb dX1_cached_21 (by decide) ?_
      refine lw_top (y := nI (v / 2)) (pk_div (a := v) (d := 2) (by omega) (by decide) (by decide)) ?_
      refine m_ci (rest := []) ⟨hx, hb, hml, hown, hts⟩ (cm_stateOf l D o cA S u (v / 2) (by omega) (by omega)) (cwm_stateOf hts ⟨by decide, by decide⟩) hw rfl hl.1 rfl (Nat.le_of_ble_eq_true rfl) dX1_cached_22 ⟨Nat.zero_le _, Nat.zero_le _⟩ (fun H locs hw => ?_)
      refine lv_if_ne (tgt := 30) hx hb dX1_cached_25 (by decide) (fun g3 => ?_) (fun g3 => ?_)
      · refine lv_aload_n hx hb dX1_cached_30 rfl (lv_at hl 0 rfl) ?_
        refine m_g1 hx hb hts hown hw dX1_cached_31 ?_
        refine lv_bipush (v := 32) hx hb dX1_cached_34 (by decide) ?_
        refine lv_iload_n hx hb dX1_cached_36 rfl (lv_at hl 1 rfl) ?_
        refine lv_imul hx hb dX1_cached_37 ?_
        refine lw_top (y := nI (32 * u)) (pk_mul 32 u) ?_
        refine lv_iload_n hx hb dX1_cached_38 rfl (lv_at hl 2 rfl) ?_
        refine lv_iadd hx hb dX1_cached_39 ?_
        refine lw_top (y := nI ((32 * u) + v)) (nI_add (32 * u) v) ?_
        refine m_l1 (n := (32 * u) + v) hx hb hw (by omega) dX1_cached_40 ?_
        exact m_reti hx hb hr hlocks hw ⟨by simp [mCaV, nI_clamp (show u < 2 ^ 31 by omega), nI_clamp (show v < 2 ^ 31 by omega), g1, g2, g3], rfl⟩ dX1_cached_41
      · refine lv_iconst (v := 0) hx hb dX1_cached_28 (by decide) ?_
        exact m_reti hx hb hr hlocks hw ⟨by simp [mCaV, nI_clamp (show u < 2 ^ 31 by omega), nI_clamp (show v < 2 ^ 31 by omega), g1, g2, g3], rfl⟩ dX1_cached_29
set_option maxRecDepth 100000 in
set_option maxHeartbeats 4000000 in
theorem cm_memory (l : Launch) (D : va_G) (o : Nat → Nat) (cA : ClassId) (S : SX) (x : Int32)  : mMi l D o cA yX1_memory cX1_memory 2 (some .int) 1 [.ref (o 0), .int x] S (S) (mMeV S x) := by
  intro sz
  refine m_met (by decide) rfl (Nat.le_of_ble_eq_true rfl) ?_
  intro P0 e s m below meth c ls hsz hx hb hml hr hlocks hown hts hl hw
  subst hsz
  have hl : lv_has ls 2 [(0, .ref (o 0)), (1, .int x)] := hl
  refine lv_iload_n hx hb dX1_memory_0 rfl (lv_at hl 1 rfl) ?_
  refine lv_bipush (v := 31) hx hb dX1_memory_1 (by decide) ?_
  refine m_cs (rest := []) ⟨hx, hb, hml, hown, hts⟩ (cm_within l x 31) (cwm_within hts ⟨by decide, by decide⟩) hw rfl hl.1 rfl (Nat.le_of_ble_eq_true rfl) dX1_memory_3 ⟨Nat.zero_le _, Nat.zero_le _⟩ (fun H locs hw => ?_)
  refine lv_if_eq (tgt := 18) hx hb dX1_memory_6 (by decide) (fun g1 => ?_) (fun g1 => ?_)
  · have g1 := bI_z.mp g1
    refine lv_iconst (v := 0) hx hb dX1_memory_18 (by decide) ?_
    exact m_reti hx hb hr hlocks hw ⟨by simp [mMeV, g1], rfl⟩ dX1_memory_19
  · have g1 := bI_n.mp g1
    obtain ⟨u, hu, rfl⟩ := inW_of (n := 31) (by decide) g1
    refine lv_aload_n hx hb dX1_memory_9 rfl (lv_at hl 0 rfl) ?_
    refine m_g2 hx hb hts hown hw dX1_memory_10 ?_
    refine lv_iload_n hx hb dX1_memory_13 rfl (lv_at hl 1 rfl) ?_
    refine m_l2 (n := u) hx hb hw (by omega) dX1_memory_14 ?_
    refine lv_goto (tgt := 19) hx hb dX1_memory_15 (by decide) ?_
    exact m_reti hx hb hr hlocks hw ⟨by simp [mMeV, nI_clamp (show u < 2 ^ 31 by omega), g1], rfl⟩ dX1_memory_19
set_option maxRecDepth 100000 in
set_option maxHeartbeats 4000000 in
theorem cm_count (l : Launch) (D : va_G) (o : Nat → Nat) (cA : ClassId) (S : SX) (x : Int32)  : mMi l D o cA yX1_count cX1_count 2 (some .int) 1 [.ref (o 0), .int x] S (S) (mCoV S x) := by
  intro sz
  refine m_met (by decide) rfl (Nat.le_of_ble_eq_true rfl) ?_
  intro P0 e s m below meth c ls hsz hx hb hml hr hlocks hown hts hl hw
  subst hsz
  have hl : lv_has ls 2 [(0, .ref (o 0)), (1, .int x)] := hl
  refine lv_iload_n hx hb dX1_count_0 rfl (lv_at hl 1 rfl) ?_
  refine lv_iconst (v := 4) hx hb dX1_count_1 (by decide) ?_
  refine m_cs (rest := []) ⟨hx, hb, hml, hown, hts⟩ (cm_within l x 4) (cwm_within hts ⟨by decide, by decide⟩) hw rfl hl.1 rfl (Nat.le_of_ble_eq_true rfl) dX1_count_2 ⟨Nat.zero_le _, Nat.zero_le _⟩ (fun H locs hw => ?_)
  refine lv_if_eq (tgt := 17) hx hb dX1_count_5 (by decide) (fun g1 => ?_) (fun g1 => ?_)
  · have g1 := bI_z.mp g1
    refine lv_iconst (v := -1) hx hb dX1_count_17 (by decide) ?_
    exact m_reti hx hb hr hlocks hw ⟨by simp [mCoV, g1], rfl⟩ dX1_count_18
  · have g1 := bI_n.mp g1
    obtain ⟨u, hu, rfl⟩ := inW_of (n := 4) (by decide) g1
    refine lv_aload_n hx hb dX1_count_8 rfl (lv_at hl 0 rfl) ?_
    refine m_g3 hx hb hts hown hw dX1_count_9 ?_
    refine lv_iload_n hx hb dX1_count_12 rfl (lv_at hl 1 rfl) ?_
    refine m_l3 (n := u) hx hb hw (by omega) dX1_count_13 ?_
    refine lv_goto (tgt := 18) hx hb dX1_count_14 (by decide) ?_
    exact m_reti hx hb hr hlocks hw ⟨by simp [mCoV, nI_clamp (show u < 2 ^ 31 by omega), g1], rfl⟩ dX1_count_18
set_option maxRecDepth 100000 in
set_option maxHeartbeats 4000000 in
theorem cm_latest (l : Launch) (D : va_G) (o : Nat → Nat) (cA : ClassId) (S : SX) (x : Int32)  : mMi l D o cA yX1_latest cX1_latest 2 (some .int) 1 [.ref (o 0), .int x] S (S) (mLaV S x) := by
  intro sz
  refine m_met (by decide) rfl (Nat.le_of_ble_eq_true rfl) ?_
  intro P0 e s m below meth c ls hsz hx hb hml hr hlocks hown hts hl hw
  subst hsz
  have hl : lv_has ls 2 [(0, .ref (o 0)), (1, .int x)] := hl
  refine lv_iload_n hx hb dX1_latest_0 rfl (lv_at hl 1 rfl) ?_
  refine lv_bipush (v := 7) hx hb dX1_latest_1 (by decide) ?_
  refine m_cs (rest := []) ⟨hx, hb, hml, hown, hts⟩ (cm_within l x 7) (cwm_within hts ⟨by decide, by decide⟩) hw rfl hl.1 rfl (Nat.le_of_ble_eq_true rfl) dX1_latest_3 ⟨Nat.zero_le _, Nat.zero_le _⟩ (fun H locs hw => ?_)
  refine lv_if_eq (tgt := 26) hx hb dX1_latest_6 (by decide) (fun g1 => ?_) (fun g1 => ?_)
  · have g1 := bI_z.mp g1
    refine lv_iconst (v := -1) hx hb dX1_latest_26 (by decide) ?_
    exact m_reti hx hb hr hlocks hw ⟨by simp [mLaV, g1], rfl⟩ dX1_latest_27
  · have g1 := bI_n.mp g1
    obtain ⟨u, hu, rfl⟩ := inW_of (n := 7) (by decide) g1
    refine lv_iload_n hx hb dX1_latest_9 rfl (lv_at hl 1 rfl) ?_
    refine lv_aload_n hx hb dX1_latest_10 rfl (lv_at hl 0 rfl) ?_
    refine m_f1 hx hb hts hown hw dX1_latest_11 ?_
    refine lv_icmp_ge (tgt := 26) hx hb dX1_latest_14 (by decide) (fun g2 => ?_) (fun g2 => ?_)
    · refine lv_iconst (v := -1) hx hb dX1_latest_26 (by decide) ?_
      exact m_reti hx hb hr hlocks hw ⟨by simp [mLaV, nI_clamp (show u < 2 ^ 31 by omega), g1, g2], rfl⟩ dX1_latest_27
    · refine lv_aload_n hx hb dX1_latest_17 rfl (lv_at hl 0 rfl) ?_
      refine m_g4 hx hb hts hown hw dX1_latest_18 ?_
      refine lv_iload_n hx hb dX1_latest_21 rfl (lv_at hl 1 rfl) ?_
      refine m_l4 (n := u) hx hb hw (by omega) dX1_latest_22 ?_
      refine lv_goto (tgt := 27) hx hb dX1_latest_23 (by decide) ?_
      exact m_reti hx hb hr hlocks hw ⟨by simp [mLaV, nI_clamp (show u < 2 ^ 31 by omega), g1, g2], rfl⟩ dX1_latest_27
set_option maxRecDepth 100000 in
set_option maxHeartbeats 4000000 in
theorem cm_flush (l : Launch) (D : va_G) (o : Nat → Nat) (cA : ClassId) (S : SX)   : mMi l D o cA yX1_flush cX1_flush 6 (some .int) 2 [.ref (o 0)] S ((mFlP 4 0 (zF S 4 0, 0)).1) (nI (mFlP 4 0 (zF S 4 0, 0)).2) := by
  intro sz
  refine m_met (by decide) rfl (Nat.le_of_ble_eq_true rfl) ?_
  intro P0 e s m below meth c ls hsz hx hb hml hr hlocks hown hts hl hw
  subst hsz
  have hl : lv_has ls 6 [(0, .ref (o 0))] := hl
  have inB : ∀ (p ln : Nat), p < 4 → ln < 2 → ∀ (n b : Nat), b + 2 * n = 16 + ln → ∀ (V : SX) (t : Nat) (H : Heap) (locs : List Loc) (ls : Array Slot), lv_has ls 6 [(4, .int (nI b)), (3, .int (nI ln)), (2, .int (nI p)), (1, .int (nI t)), (0, .ref (o 0))] → mW D o cA (mA o s.heap.size) s s.heap V H locs → (∀ (V' : SX) (t' : Nat) (H : Heap) (locs : List Loc) (ls : Array Slot), lv_has ls 6 [(3, .int (nI ln)), (2, .int (nI p)), (1, .int (nI t')), (0, .ref (o 0))] → mW D o cA (mA o s.heap.size) s s.heap V' H locs → (V', t') = mFlB p n b (V, t) → W P0 l e (rmD 2) s m ([.ref (o 0)]).toArray below meth c H locs 0 0 (MQ below (mQi D o cA s.heap.size ((mFlP 4 0 (zF S 4 0, 0)).1) (nI (mFlP 4 0 (zF S 4 0, 0)).2)) ([.ref (o 0)]).toArray s 0 0 (mA o s.heap.size)) (F0 m 64 ls [])) → W P0 l e (rmD 2) s m ([.ref (o 0)]).toArray below meth c H locs 0 0 (MQ below (mQi D o cA s.heap.size ((mFlP 4 0 (zF S 4 0, 0)).1) (nI (mFlP 4 0 (zF S 4 0, 0)).2)) ([.ref (o 0)]).toArray s 0 0 (mA o s.heap.size)) (F0 m 24 ls []) := by
    intro p ln hp hln n
    induction n with
    | zero =>
      intro b hb9 V t H locs ls hl hw kk
      refine lv_iload hx hb dX1_flush_24 (lv_at hl 0 rfl) ?_
      refine lv_bipush (v := 16) hx hb dX1_flush_26 (by decide) ?_
      refine lv_icmp_ge (tgt := 64) hx hb dX1_flush_28 (by decide) (fun _ => ?_) (fun h9 => absurd (nI_le (a := 16) (b := b) (by omega) (by omega)) h9)
      exact kk _ _ _ _ _ (lv_sub hl [1, 2, 3, 4] rfl) hw rfl
    | succ n ih =>
      intro b hb9 V t H locs ls hl hw kk
      refine lv_iload hx hb dX1_flush_24 (lv_at hl 0 rfl) ?_
      refine lv_bipush (v := 16) hx hb dX1_flush_26 (by decide) ?_
      refine lv_icmp_ge (tgt := 64) hx hb dX1_flush_28 (by decide) (fun h9 => absurd h9 (nI_ge (a := b) (b := 16) (by omega) (by decide))) (fun _ => ?_)
      refine lv_aload_n hx hb dX1_flush_31 rfl (lv_at hl 4 rfl) ?_
      refine lv_iload_n hx hb dX1_flush_32 rfl (lv_at hl 2 rfl) ?_
      refine lv_iload hx hb dX1_flush_33 (lv_at hl 0 rfl) ?_
      refine m_ci (rest := []) ⟨hx, hb, hml, hown, hts⟩ (cm_stateOf l D o cA V p b (by omega) (by omega)) (cwm_stateOf hts ⟨by decide, by decide⟩) hw rfl hl.1 rfl (Nat.le_of_ble_eq_true rfl) dX1_flush_35 ⟨Nat.zero_le _, Nat.zero_le _⟩ (fun H locs hw => ?_)
      refine lv_if_le (tgt := 58) hx hb dX1_flush_38 (by decide) (fun g1 => ?_) (fun g1 => ?_)
      · refine lv_iinc (k := 0) (v := nI (b + 2)) (lv' := [(4, .int (nI (b + 2))), (3, .int (nI ln)), (2, .int (nI p)), (1, .int (nI t)), (0, .ref (o 0))]) hx hb dX1_flush_58 hl rfl (lw_inc b 2) (by decide) rfl (fun ls hl => ?_)
        refine lv_goto (tgt := 24) hx hb dX1_flush_61 (by decide) ?_
        exact ih (b + 2) (by omega) _ _ _ _ _ (lv_sub hl [0, 1, 2, 3, 4] rfl) hw (fun V' t' H locs ls hl hw he => kk V' t' H locs ls hl hw (by rw [he]; simp [mFlB, mFl1, g1]))
      · refine lv_aload_n hx hb dX1_flush_41 rfl (lv_at hl 4 rfl) ?_
        refine lv_iload_n hx hb dX1_flush_42 rfl (lv_at hl 2 rfl) ?_
        refine lv_iload hx hb dX1_flush_43 (lv_at hl 0 rfl) ?_
        refine m_ci (rest := []) ⟨hx, hb, hml, hown, hts⟩ (cm_empty l D o cA V p b (by omega) (by omega)) (cwm_empty hts ⟨by decide, by decide⟩) hw rfl hl.1 rfl (Nat.le_of_ble_eq_true rfl) dX1_flush_45 ⟨Nat.zero_le _, Nat.zero_le _⟩ (fun H locs hw => ?_)
        refine lv_istore (lv' := [(5, .int (bI (mDi (V.1 0 (16 * p + b))))), (4, .int (nI b)), (3, .int (nI ln)), (2, .int (nI p)), (1, .int (nI t)), (0, .ref (o 0))]) hx hb dX1_flush_48 hl (by decide) rfl (fun ls hl => ?_)
        refine lv_iload hx hb dX1_flush_50 (lv_at hl 0 rfl) ?_
        refine lv_if_eq (tgt := 58) hx hb dX1_flush_52 (by decide) (fun g2 => ?_) (fun g2 => ?_)
        · have g2 := bI_z.mp g2
          refine lv_iinc (k := 1) (v := nI (b + 2)) (lv' := [(4, .int (nI (b + 2))), (5, .int (bI (mDi (V.1 0 (16 * p + b))))), (3, .int (nI ln)), (2, .int (nI p)), (1, .int (nI t)), (0, .ref (o 0))]) hx hb dX1_flush_58 hl rfl (lw_inc b 2) (by decide) rfl (fun ls hl => ?_)
          refine lv_goto (tgt := 24) hx hb dX1_flush_61 (by decide) ?_
          exact ih (b + 2) (by omega) _ _ _ _ _ (lv_sub hl [0, 2, 3, 4, 5] rfl) hw (fun V' t' H locs ls hl hw he => kk V' t' H locs ls hl hw (by rw [he]; simp [mFlB, mFl1, g1, g2]))
        · have g2 := bI_n.mp g2
          refine lv_iinc (k := 4) (v := nI (t + 1)) (lv' := [(1, .int (nI (t + 1))), (5, .int (bI (mDi (V.1 0 (16 * p + b))))), (4, .int (nI b)), (3, .int (nI ln)), (2, .int (nI p)), (0, .ref (o 0))]) hx hb dX1_flush_55 hl rfl (lw_inc t 1) (by decide) rfl (fun ls hl => ?_)
          refine lv_iinc (k := 2) (v := nI (b + 2)) (lv' := [(4, .int (nI (b + 2))), (1, .int (nI (t + 1))), (5, .int (bI (mDi (V.1 0 (16 * p + b))))), (3, .int (nI ln)), (2, .int (nI p)), (0, .ref (o 0))]) hx hb dX1_flush_58 hl rfl (lw_inc b 2) (by decide) rfl (fun ls hl => ?_)
          refine lv_goto (tgt := 24) hx hb dX1_flush_61 (by decide) ?_
          exact ih (b + 2) (by omega) _ _ _ _ _ (lv_sub hl [0, 3, 4, 1, 5] rfl) hw (fun V' t' H locs ls hl hw he => kk V' t' H locs ls hl hw (by rw [he]; simp [mFlB, mFl1, g1, g2]))
  have outP : ∀ (n p : Nat), n + p = 4 → ∀ (V : SX) (t : Nat) (H : Heap) (locs : List Loc) (ls : Array Slot), lv_has ls 6 [(2, .int (nI p)), (1, .int (nI t)), (0, .ref (o 0))] → mW D o cA (mA o s.heap.size) s s.heap V H locs → mFlP n p (V, t) = mFlP 4 0 (zF S 4 0, 0) → W P0 l e (rmD 2) s m ([.ref (o 0)]).toArray below meth c H locs 0 0 (MQ below (mQi D o cA s.heap.size ((mFlP 4 0 (zF S 4 0, 0)).1) (nI (mFlP 4 0 (zF S 4 0, 0)).2)) ([.ref (o 0)]).toArray s 0 0 (mA o s.heap.size)) (F0 m 9 ls []) := by
    intro n
    induction n with
    | zero =>
      intro p hp V t H locs ls hl hw hf
      obtain rfl : p = 4 := by omega
      refine lv_iload_n hx hb dX1_flush_9 rfl (lv_at hl 0 rfl) ?_
      refine lv_iconst (v := 4) hx hb dX1_flush_10 (by decide) ?_
      refine lv_icmp_ge (tgt := 76) hx hb dX1_flush_11 (by decide) (fun _ => ?_) (fun h9 => absurd (by decide) h9)
      refine lv_iload_n hx hb dX1_flush_76 rfl (lv_at hl 1 rfl) ?_
      exact m_reti hx hb hr hlocks hw ⟨by rw [← hf]; rfl, by rw [← hf]; rfl⟩ dX1_flush_77
    | succ n ih =>
      intro p hp V t H locs ls hl hw hf
      refine lv_iload_n hx hb dX1_flush_9 rfl (lv_at hl 0 rfl) ?_
      refine lv_iconst (v := 4) hx hb dX1_flush_10 (by decide) ?_
      refine lv_icmp_ge (tgt := 76) hx hb dX1_flush_11 (by decide) (fun h9 => absurd h9 (nI_ge (a := p) (b := 4) (by omega) (by decide))) (fun _ => ?_)
      refine lv_iconst (v := 0) hx hb dX1_flush_14 (by decide) ?_
      refine lv_istore_n (lv' := [(3, .int 0), (2, .int (nI p)), (1, .int (nI t)), (0, .ref (o 0))]) hx hb dX1_flush_15 rfl hl (by decide) rfl (fun ls hl => ?_)
      refine lv_iload_n hx hb dX1_flush_16 rfl (lv_at hl 0 rfl) ?_
      refine lv_iconst (v := 2) hx hb dX1_flush_17 (by decide) ?_
      refine lv_icmp_ge (tgt := 70) hx hb dX1_flush_18 (by decide) (fun h9 => absurd h9 (by decide)) (fun _ => ?_)
      refine lv_iload_n hx hb dX1_flush_21 rfl (lv_at hl 0 rfl) ?_
      refine lv_istore (lv' := [(4, .int 0), (3, .int 0), (2, .int (nI p)), (1, .int (nI t)), (0, .ref (o 0))]) hx hb dX1_flush_22 hl (by decide) rfl (fun ls hl => ?_)
      refine inB p 0 (by omega) (by omega) 8 0 (by omega) _ _ _ _ _ (lv_sub hl [0, 1, 2, 3, 4] rfl) hw (fun V1 t1 H locs ls hl hw he1 => ?_)
      refine lv_iinc (k := 0) (v := nI (0 + 1)) (lv' := [(3, .int (nI (0 + 1))), (2, .int (nI p)), (1, .int (nI t1)), (0, .ref (o 0))]) hx hb dX1_flush_64 hl rfl (lw_inc 0 1) (by decide) rfl (fun ls hl => ?_)
      refine lv_goto (tgt := 16) hx hb dX1_flush_67 (by decide) ?_
      refine lv_iload_n hx hb dX1_flush_16 rfl (lv_at hl 0 rfl) ?_
      refine lv_iconst (v := 2) hx hb dX1_flush_17 (by decide) ?_
      refine lv_icmp_ge (tgt := 70) hx hb dX1_flush_18 (by decide) (fun h9 => absurd h9 (by decide)) (fun _ => ?_)
      refine lv_iload_n hx hb dX1_flush_21 rfl (lv_at hl 0 rfl) ?_
      refine lv_istore (lv' := [(4, .int (nI (0 + 1))), (3, .int (nI (0 + 1))), (2, .int (nI p)), (1, .int (nI t1)), (0, .ref (o 0))]) hx hb dX1_flush_22 hl (by decide) rfl (fun ls hl => ?_)
      refine inB p 1 (by omega) (by omega) 8 1 (by omega) _ _ _ _ _ (lv_sub hl [0, 1, 2, 3, 4] rfl) hw (fun V2 t2 H locs ls hl hw he2 => ?_)
      refine lv_iinc (k := 0) (v := nI (1 + 1)) (lv' := [(3, .int (nI (1 + 1))), (2, .int (nI p)), (1, .int (nI t2)), (0, .ref (o 0))]) hx hb dX1_flush_64 hl rfl (lw_inc 1 1) (by decide) rfl (fun ls hl => ?_)
      refine lv_goto (tgt := 16) hx hb dX1_flush_67 (by decide) ?_
      refine lv_iload_n hx hb dX1_flush_16 rfl (lv_at hl 0 rfl) ?_
      refine lv_iconst (v := 2) hx hb dX1_flush_17 (by decide) ?_
      refine lv_icmp_ge (tgt := 70) hx hb dX1_flush_18 (by decide) (fun _ => ?_) (fun h9 => absurd (by decide) h9)
      refine lv_iinc (k := 1) (v := nI (p + 1)) (lv' := [(2, .int (nI (p + 1))), (3, .int (nI (1 + 1))), (1, .int (nI t2)), (0, .ref (o 0))]) hx hb dX1_flush_70 hl rfl (lw_inc p 1) (by decide) rfl (fun ls hl => ?_)
      refine lv_goto (tgt := 9) hx hb dX1_flush_73 (by decide) ?_
      exact ih (p + 1) (by omega) _ _ _ _ _ (lv_sub hl [0, 2, 3] rfl) hw (by rw [← hf, he2, he1]; rfl)
  refine lv_aload_n hx hb dX1_flush_0 rfl (lv_at hl 0 rfl) ?_
  refine lv_iconst (v := 0) hx hb dX1_flush_1 (by decide) ?_
  refine m_p4 (x := 0) hx hb hts hown hw dX1_flush_2 (fun H locs hw => ?_)
  refine lv_iconst (v := 0) hx hb dX1_flush_5 (by decide) ?_
  refine lv_istore_n (lv' := [(1, .int 0), (0, .ref (o 0))]) hx hb dX1_flush_6 rfl hl (by decide) rfl (fun ls hl => ?_)
  refine lv_iconst (v := 0) hx hb dX1_flush_7 (by decide) ?_
  refine lv_istore_n (lv' := [(2, .int 0), (1, .int 0), (0, .ref (o 0))]) hx hb dX1_flush_8 rfl hl (by decide) rfl (fun ls hl => ?_)
  exact outP 4 0 rfl _ 0 _ _ _ (lv_sub hl [0, 1, 2] rfl) hw rfl
set_option maxRecDepth 100000 in
set_option maxHeartbeats 4000000 in
theorem cm_choose_bad (l : Launch) (D : va_G) (o : Nat → Nat) (cA : ClassId) (S : SX) (x : Int32) (hbad : x < 0 ∨ ¬ x ≤ 3) : mMi l D o cA yX1_choose cX1_choose 3 (some .boolean) 0 [.ref (o 0), .int x] S (zF S 4 0) (bI false) := by
  intro sz
  refine m_met (by decide) rfl (Nat.le_of_ble_eq_true rfl) ?_
  intro P0 e s m below meth c ls hsz hx hb hml hr hlocks hown hts hl hw
  subst hsz
  have hl : lv_has ls 3 [(0, .ref (o 0)), (1, .int x)] := hl
  refine lv_aload_n hx hb dX1_choose_0 rfl (lv_at hl 0 rfl) ?_
  refine lv_iconst (v := 0) hx hb dX1_choose_1 (by decide) ?_
  refine m_p4 (x := 0) hx hb hts hown hw dX1_choose_2 (fun H locs hw => ?_)
  refine lv_iload_n hx hb dX1_choose_5 rfl (lv_at hl 1 rfl) ?_
  refine lv_if_lt (tgt := 14) hx hb dX1_choose_6 (by decide) (fun g1 => ?_) (fun g1 => ?_)
  · refine lv_iconst (v := 0) hx hb dX1_choose_14 (by decide) ?_
    exact m_retz hx hb hr hlocks hw ⟨rfl, rfl⟩ dX1_choose_15
  · refine lv_iload_n hx hb dX1_choose_9 rfl (lv_at hl 1 rfl) ?_
    refine lv_iconst (v := 3) hx hb dX1_choose_10 (by decide) ?_
    refine lv_icmp_le (tgt := 16) hx hb dX1_choose_11 (by decide) (fun h9 => absurd h9 (hbad.resolve_left g1)) (fun _ => ?_)
    refine lv_iconst (v := 0) hx hb dX1_choose_14 (by decide) ?_
    exact m_retz hx hb hr hlocks hw ⟨rfl, rfl⟩ dX1_choose_15
set_option maxRecDepth 100000 in
set_option maxHeartbeats 4000000 in
theorem cm_choose (l : Launch) (D : va_G) (o : Nat → Nat) (cA : ClassId) (S : SX) (x : Int32) (hx0 : ¬ x < 0) (hx3 : x ≤ 3) : mMi l D o cA yX1_choose cX1_choose 3 (some .boolean) 0 [.ref (o 0), .int x] S (mCh (zF S 4 0) x) (bI true) := by
  intro sz
  refine m_met (by decide) rfl (Nat.le_of_ble_eq_true rfl) ?_
  intro P0 e s m below meth c ls hsz hx hb hml hr hlocks hown hts hl hw
  subst hsz
  have hl : lv_has ls 3 [(0, .ref (o 0)), (1, .int x)] := hl
  have fin : ∀ (H : Heap) (locs : List Loc) (ls : Array Slot), lv_has ls 3 [(0, .ref (o 0)), (1, .int x)] → mW D o cA (mA o s.heap.size) s s.heap (zA (zA (zA (zF S 4 0) 0 (fun _ => 0)) 2 (fun _ => 0)) 3 (fun _ => 0)) H locs → W P0 l e (rmD 0) s m ([.ref (o 0), .int x]).toArray below meth c H locs 0 0 (MQ below (mQi D o cA s.heap.size (mCh (zF S 4 0) x) (bI true)) ([.ref (o 0), .int x]).toArray s 0 0 (mA o s.heap.size)) (F0 m 78 ls []) := by
    intro H locs ls hl hw
    refine lv_aload_n hx hb dX1_choose_78 rfl (lv_at hl 0 rfl) ?_
    refine lv_iload_n hx hb dX1_choose_79 rfl (lv_at hl 1 rfl) ?_
    refine m_p0 (x := x) hx hb hts hown hw dX1_choose_80 (fun H locs hw => ?_)
    refine lv_aload_n hx hb dX1_choose_83 rfl (lv_at hl 0 rfl) ?_
    refine lv_iconst (v := 0) hx hb dX1_choose_84 (by decide) ?_
    refine m_p1 (x := 0) hx hb hts hown hw dX1_choose_85 (fun H locs hw => ?_)
    refine lv_aload_n hx hb dX1_choose_88 rfl (lv_at hl 0 rfl) ?_
    refine lv_iconst (v := 0) hx hb dX1_choose_89 (by decide) ?_
    refine m_p2 (x := 0) hx hb hts hown hw dX1_choose_90 (fun H locs hw => ?_)
    refine lv_aload_n hx hb dX1_choose_93 rfl (lv_at hl 0 rfl) ?_
    refine lv_iconst (v := 0) hx hb dX1_choose_94 (by decide) ?_
    refine m_p3 (x := 0) hx hb hts hown hw dX1_choose_95 (fun H locs hw => ?_)
    refine lv_iconst (v := 1) hx hb dX1_choose_98 (by decide) ?_
    exact m_retz hx hb hr hlocks hw ⟨rfl, rfl⟩ dX1_choose_99
  have lp3 : ∀ (n k : Nat), n + k = 5 → ∀ (f : Nat → Int32) (H : Heap) (locs : List Loc) (ls : Array Slot), lv_has ls 3 [(2, .int (nI k)), (0, .ref (o 0)), (1, .int x)] → mW D o cA (mA o s.heap.size) s s.heap (zA (zA (zA (zF S 4 0) 0 (fun _ => 0)) 2 (fun _ => 0)) 3 f) H locs → (∀ j, j < k → f j = 0) → W P0 l e (rmD 0) s m ([.ref (o 0), .int x]).toArray below meth c H locs 0 0 (MQ below (mQi D o cA s.heap.size (mCh (zF S 4 0) x) (bI true)) ([.ref (o 0), .int x]).toArray s 0 0 (mA o s.heap.size)) (F0 m 60 ls []) := by
    intro n
    induction n with
    | zero =>
      intro k hk f H locs ls hl hw hf
      obtain rfl : k = 5 := by omega
      refine lv_iload_n hx hb dX1_choose_60 rfl (lv_at hl 0 rfl) ?_
      refine lv_iconst (v := 5) hx hb dX1_choose_61 (by decide) ?_
      refine lv_icmp_ge (tgt := 78) hx hb dX1_choose_62 (by decide) (fun _ => ?_) (fun h9 => absurd (by decide) h9)
      have hw : mW D o cA (mA o s.heap.size) s s.heap (zA (zA (zA (zF S 4 0) 0 (fun _ => 0)) 2 (fun _ => 0)) 3 (fun _ => 0)) H locs := by have h7 := m_e3 (f := fun _ => 0) hw (fun j hj => by rw [zA_s]; exact hf j hj); rw [zA_zA] at h7; exact h7
      exact fin _ _ _ (lv_sub hl [1, 2] rfl) hw
    | succ n ih =>
      intro k hk f H locs ls hl hw hf
      refine lv_iload_n hx hb dX1_choose_60 rfl (lv_at hl 0 rfl) ?_
      refine lv_iconst (v := 5) hx hb dX1_choose_61 (by decide) ?_
      refine lv_icmp_ge (tgt := 78) hx hb dX1_choose_62 (by decide) (fun h9 => absurd h9 (nI_ge (a := k) (b := 5) (by omega) (by decide))) (fun _ => ?_)
      refine lv_aload_n hx hb dX1_choose_65 rfl (lv_at hl 1 rfl) ?_
      refine m_g3 hx hb hts hown hw dX1_choose_66 ?_
      refine lv_iload_n hx hb dX1_choose_69 rfl (lv_at hl 0 rfl) ?_
      refine lv_iconst (v := 0) hx hb dX1_choose_70 (by decide) ?_
      refine m_s3 (n := k) (x := 0) hx hb hw (by omega) dX1_choose_71 (fun H locs hw => ?_)
      rw [zA_zA, zA_s] at hw
      refine lv_iinc (k := 0) (v := nI (k + 1)) (lv' := [(2, .int (nI (k + 1))), (0, .ref (o 0)), (1, .int x)]) hx hb dX1_choose_72 hl rfl (lw_inc k 1) (by decide) rfl (fun ls hl => ?_)
      refine lv_goto (tgt := 60) hx hb dX1_choose_75 (by decide) ?_
      exact ih (k + 1) (by omega) _ _ _ _ (lv_sub hl [0, 1, 2] rfl) hw (fun j hj => by by_cases h6 : j = k; (· rw [h6, pk_us]); (· rw [pk_un h6]; exact hf j (by omega)))
  have lp2 : ∀ (n k : Nat), n + k = 32 → ∀ (f : Nat → Int32) (H : Heap) (locs : List Loc) (ls : Array Slot), lv_has ls 3 [(2, .int (nI k)), (0, .ref (o 0)), (1, .int x)] → mW D o cA (mA o s.heap.size) s s.heap (zA (zA (zF S 4 0) 0 (fun _ => 0)) 2 f) H locs → (∀ j, j < k → f j = 0) → W P0 l e (rmD 0) s m ([.ref (o 0), .int x]).toArray below meth c H locs 0 0 (MQ below (mQi D o cA s.heap.size (mCh (zF S 4 0) x) (bI true)) ([.ref (o 0), .int x]).toArray s 0 0 (mA o s.heap.size)) (F0 m 39 ls []) := by
    intro n
    induction n with
    | zero =>
      intro k hk f H locs ls hl hw hf
      obtain rfl : k = 32 := by omega
      refine lv_iload_n hx hb dX1_choose_39 rfl (lv_at hl 0 rfl) ?_
      refine lv_bipush (v := 32) hx hb dX1_choose_40 (by decide) ?_
      refine lv_icmp_ge (tgt := 58) hx hb dX1_choose_42 (by decide) (fun _ => ?_) (fun h9 => absurd (by decide) h9)
      have hw : mW D o cA (mA o s.heap.size) s s.heap (zA (zA (zF S 4 0) 0 (fun _ => 0)) 2 (fun _ => 0)) H locs := by have h7 := m_e2 (f := fun _ => 0) hw (fun j hj => by rw [zA_s]; exact hf j hj); rw [zA_zA] at h7; exact h7
      refine lv_iconst (v := 0) hx hb dX1_choose_58 (by decide) ?_
      refine lv_istore_n (lv' := [(2, .int 0), (0, .ref (o 0)), (1, .int x)]) hx hb dX1_choose_59 rfl hl (by decide) rfl (fun ls hl => ?_)
      exact lp3 _ 0 rfl ((zA (zA (zF S 4 0) 0 (fun _ => 0)) 2 (fun _ => 0)).1 3) _ _ _ (lv_sub hl [0, 1, 2] rfl) (by rw [zA_id]; exact hw) (fun j hj => absurd hj (Nat.not_lt_zero j))
    | succ n ih =>
      intro k hk f H locs ls hl hw hf
      refine lv_iload_n hx hb dX1_choose_39 rfl (lv_at hl 0 rfl) ?_
      refine lv_bipush (v := 32) hx hb dX1_choose_40 (by decide) ?_
      refine lv_icmp_ge (tgt := 58) hx hb dX1_choose_42 (by decide) (fun h9 => absurd h9 (nI_ge (a := k) (b := 32) (by omega) (by decide))) (fun _ => ?_)
      refine lv_aload_n hx hb dX1_choose_45 rfl (lv_at hl 1 rfl) ?_
      refine m_g2 hx hb hts hown hw dX1_choose_46 ?_
      refine lv_iload_n hx hb dX1_choose_49 rfl (lv_at hl 0 rfl) ?_
      refine lv_iconst (v := 0) hx hb dX1_choose_50 (by decide) ?_
      refine m_s2 (n := k) (x := 0) hx hb hw (by omega) dX1_choose_51 (fun H locs hw => ?_)
      rw [zA_zA, zA_s] at hw
      refine lv_iinc (k := 0) (v := nI (k + 1)) (lv' := [(2, .int (nI (k + 1))), (0, .ref (o 0)), (1, .int x)]) hx hb dX1_choose_52 hl rfl (lw_inc k 1) (by decide) rfl (fun ls hl => ?_)
      refine lv_goto (tgt := 39) hx hb dX1_choose_55 (by decide) ?_
      exact ih (k + 1) (by omega) _ _ _ _ (lv_sub hl [0, 1, 2] rfl) hw (fun j hj => by by_cases h6 : j = k; (· rw [h6, pk_us]); (· rw [pk_un h6]; exact hf j (by omega)))
  have lp1 : ∀ (n k : Nat), n + k = 64 → ∀ (f : Nat → Int32) (H : Heap) (locs : List Loc) (ls : Array Slot), lv_has ls 3 [(2, .int (nI k)), (0, .ref (o 0)), (1, .int x)] → mW D o cA (mA o s.heap.size) s s.heap (zA (zF S 4 0) 0 f) H locs → (∀ j, j < k → f j = 0) → W P0 l e (rmD 0) s m ([.ref (o 0), .int x]).toArray below meth c H locs 0 0 (MQ below (mQi D o cA s.heap.size (mCh (zF S 4 0) x) (bI true)) ([.ref (o 0), .int x]).toArray s 0 0 (mA o s.heap.size)) (F0 m 18 ls []) := by
    intro n
    induction n with
    | zero =>
      intro k hk f H locs ls hl hw hf
      obtain rfl : k = 64 := by omega
      refine lv_iload_n hx hb dX1_choose_18 rfl (lv_at hl 0 rfl) ?_
      refine lv_bipush (v := 64) hx hb dX1_choose_19 (by decide) ?_
      refine lv_icmp_ge (tgt := 37) hx hb dX1_choose_21 (by decide) (fun _ => ?_) (fun h9 => absurd (by decide) h9)
      have hw : mW D o cA (mA o s.heap.size) s s.heap (zA (zF S 4 0) 0 (fun _ => 0)) H locs := by have h7 := m_e0 (f := fun _ => 0) hw (fun j hj => by rw [zA_s]; exact hf j hj); rw [zA_zA] at h7; exact h7
      refine lv_iconst (v := 0) hx hb dX1_choose_37 (by decide) ?_
      refine lv_istore_n (lv' := [(2, .int 0), (0, .ref (o 0)), (1, .int x)]) hx hb dX1_choose_38 rfl hl (by decide) rfl (fun ls hl => ?_)
      exact lp2 _ 0 rfl ((zA (zF S 4 0) 0 (fun _ => 0)).1 2) _ _ _ (lv_sub hl [0, 1, 2] rfl) (by rw [zA_id]; exact hw) (fun j hj => absurd hj (Nat.not_lt_zero j))
    | succ n ih =>
      intro k hk f H locs ls hl hw hf
      refine lv_iload_n hx hb dX1_choose_18 rfl (lv_at hl 0 rfl) ?_
      refine lv_bipush (v := 64) hx hb dX1_choose_19 (by decide) ?_
      refine lv_icmp_ge (tgt := 37) hx hb dX1_choose_21 (by decide) (fun h9 => absurd h9 (nI_ge (a := k) (b := 64) (by omega) (by decide))) (fun _ => ?_)
      refine lv_aload_n hx hb dX1_choose_24 rfl (lv_at hl 1 rfl) ?_
      refine m_g0 hx hb hts hown hw dX1_choose_25 ?_
      refine lv_iload_n hx hb dX1_choose_28 rfl (lv_at hl 0 rfl) ?_
      refine lv_iconst (v := 0) hx hb dX1_choose_29 (by decide) ?_
      refine m_s0 (n := k) (x := 0) hx hb hw (by omega) dX1_choose_30 (fun H locs hw => ?_)
      rw [zA_zA, zA_s] at hw
      refine lv_iinc (k := 0) (v := nI (k + 1)) (lv' := [(2, .int (nI (k + 1))), (0, .ref (o 0)), (1, .int x)]) hx hb dX1_choose_31 hl rfl (lw_inc k 1) (by decide) rfl (fun ls hl => ?_)
      refine lv_goto (tgt := 18) hx hb dX1_choose_34 (by decide) ?_
      exact ih (k + 1) (by omega) _ _ _ _ (lv_sub hl [0, 1, 2] rfl) hw (fun j hj => by by_cases h6 : j = k; (· rw [h6, pk_us]); (· rw [pk_un h6]; exact hf j (by omega)))
  refine lv_aload_n hx hb dX1_choose_0 rfl (lv_at hl 0 rfl) ?_
  refine lv_iconst (v := 0) hx hb dX1_choose_1 (by decide) ?_
  refine m_p4 (x := 0) hx hb hts hown hw dX1_choose_2 (fun H locs hw => ?_)
  refine lv_iload_n hx hb dX1_choose_5 rfl (lv_at hl 1 rfl) ?_
  refine lv_if_lt (tgt := 14) hx hb dX1_choose_6 (by decide) (fun h9 => absurd h9 (hx0)) (fun _ => ?_)
  refine lv_iload_n hx hb dX1_choose_9 rfl (lv_at hl 1 rfl) ?_
  refine lv_iconst (v := 3) hx hb dX1_choose_10 (by decide) ?_
  refine lv_icmp_le (tgt := 16) hx hb dX1_choose_11 (by decide) (fun _ => ?_) (fun h9 => absurd (hx3) h9)
  refine lv_iconst (v := 0) hx hb dX1_choose_16 (by decide) ?_
  refine lv_istore_n (lv' := [(2, .int 0), (0, .ref (o 0)), (1, .int x)]) hx hb dX1_choose_17 rfl hl (by decide) rfl (fun ls hl => ?_)
  exact lp1 _ 0 rfl ((zF S 4 0).1 0) _ _ _ (lv_sub hl [0, 1, 2] rfl) (by rw [zA_id]; exact hw) (fun j hj => absurd hj (Nat.not_lt_zero j))
end
section
def o_x (a0 a1 a2 a3 a4 a5 a6 : Nat) : Nat → Nat := fun k => match k with
  | 0 => a0
  | 1 => a1
  | 2 => a2
  | 3 => a3
  | 4 => a4
  | 5 => a5
  | _ => a6
def rmIx : Room := { frames := 2, cells := 6, slots := 77, locals := 80 }
def iA (h sz : Nat) : Nat → Prop := fun q => q = h ∨ sz ≤ q
def S00 : SX := (fun _ _ => 0, fun _ => 0)
theorem ra_same {U : State} {c1 c2 : ClassId} (h1 : va_RA U c1 .int) (h2 : va_RA U c2 .int) : c2 = c1 := Option.some.inj (Eq.trans (Eq.symm h2) h1)
def xIPre (D : va_G) (h sz : Nat) (U : State) : Prop := U.heap.size = sz ∧ va_P D vwCl [(h, .inr (0, [.null, .null, .null, .null, .null, .null, .int 0, .int 0, .int 0, .int 0]))] U.heap ∧ va_K D vwCl [] U
def xIQ (D : va_G) (h sz : Nat) : Array Value → State → Outcome → State → Prop := va_Qv (fun (_ : Unit) => True) (fun _ t => ∃ (o : Nat → Nat) (cA : ClassId), o 0 = h ∧ va_P D vwCl (xw o cA (xSo S00 0)) t.heap ∧ va_K D vwCl [(cA, .int)] t ∧ va_D (iA h sz) (xw o cA (xSo S00 0))) (iA h sz)
set_option maxRecDepth 100000 in
set_option maxHeartbeats 4000000 in
theorem cx_init (l : Launch) (D : va_G) (h sz : Nat) : Met l yX0_init (.code yX0_init cX0_init 1 none :: GT) rmIx (va_Pc [.ref h] (xIPre D h sz)) (xIQ D h sz) 6 77 (iA h sz) := by
  refine Met.ofW (cc := cX0_init) (maxL := 1) (ret := none) (by decide) rfl ?_
  intro P0 e s m args below meth c s₁ B hml hv
  obtain ⟨rfl, hsz, hP, hK⟩ := hv
  subst hsz
  have hx := B.exec
  have hb := B.bytes
  have hr := B.returns
  have hlocks := B.notSynchronized
  have hts0 := atoms_spec (ws := Cond.code yX0_init cX0_init 1 none :: GT) B.pre
  have hts : ∀ w ∈ GT, w.before [Value.ref h].toArray s = true := fun w hw => hts0 w (List.mem_cons_of_mem _ hw)
  have hown : s.vm.findClass RX0 = some m.cls := findClass_of_methodNamed B.named
  have hin : meth.name = "<init>" := (name_of_methodNamed B.named B.method).1
  have hl := lv_entry [Value.ref h] (n := 1) (Nat.le_of_ble_eq_true rfl)
  rw [lg_entry_eq]
  generalize (lg_sl [Value.ref h] ++ List.replicate (1 - (lg_sl [Value.ref h]).length) Slot.unset).toArray = ls at hl ⊢
  have hl : lv_has ls 1 [(0, .ref h)] := hl
  have hD : va_D (iA h s.heap.size) [(h, .inr (0, [.null, .null, .null, .null, .null, .null, .int 0, .int 0, .int 0, .int 0]))] := ⟨fun i j p q hp hq _ => by
    have h1 := (List.getElem?_eq_some_iff.mp hp).1
    have h2 := (List.getElem?_eq_some_iff.mp hq).1
    simp at h1 h2
    omega, fun k p hk => by
    have h1 := (List.getElem?_eq_some_iff.mp hk).1
    simp at h1
    subst h1
    have h2 := Option.some.inj hk
    rw [← h2]
    exact Or.inl rfl⟩
  have hS : va_S (iA h s.heap.size) s.heap s.heap [] := va_S.rf
  have hA : ∀ q, s.heap.size ≤ q → iA h s.heap.size q := fun q hq => Or.inr hq
  refine lv_aload_n hx hb dX0_init_0 rfl (lv_at hl 0 rfl) ?_
  refine W.objInit hx hb hown (hts (.methodLink RX0 1 objectInit) gw_15) (hts (.instanceMethod objectInit) gw_16) (hts (.code objectInit ⟨#[0xb1]⟩ 1 none) gw_17) rfl (by rw [hml]; exact hl.1) rfl dX0_init_1 (Nat.le_of_ble_eq_true rfl) (Nat.le_of_ble_eq_true rfl) ?_
  refine W.eq (g2 := F0 m 4 ls []) rfl ?_
  refine lv_aload_n hx hb dX0_init_4 rfl (lv_at hl 0 rfl) ?_
  refine lv_bipush (v := 8) hx hb dX0_init_5 (by decide) ?_
  refine va_newa (atype := .int) (n := 8) (ty := .int) (N' := 8) (a0 := (8, .inl (fun _ => 0))) hx hb (hts (.arrayClass .int) gw_34) rfl hK hP hD hS hA (fun _ => rfl) (by decide) (by decide +kernel) (by decide +kernel) (Nat.le_of_ble_eq_true rfl) (Nat.le_of_ble_eq_true rfl) dX0_init_7 (fun q0 c0 H hK hP hD hS => ?_)
  have hP : va_P D vwCl [(h, .inr (0, [.null, .null, .null, .null, .null, .null, .int 0, .int 0, .int 0, .int 0])), (q0, .inl (c0, 8, .inl (fun _ => 0)))] H := hP
  have hD : va_D (iA h s.heap.size) [(h, .inr (0, [.null, .null, .null, .null, .null, .null, .int 0, .int 0, .int 0, .int 0])), (q0, .inl (c0, 8, .inl (fun _ => 0)))] := hD
  refine va_putF (D := D) (ci := 0) (v := .ref q0) (ty := .array .int) (C := RX0) (T := TX0) (N := 10) hx hb hts inX0 tyX0 tyX0_ok nmX0 hown hK hP hD hS 0 rfl rfl 0 (by decide) (hts (.fieldLink RX0 9 "SnoopBus" "lineStates" "[I") gw_24) (fun _ h9 => h9) rfl hin rfl (by decide +kernel) rfl rfl (Nat.le_of_ble_eq_true rfl) dX0_init_9 (fun H locs hP hD hS => ?_)
  have hP : va_P D vwCl [(h, .inr (0, [.ref q0, .null, .null, .null, .null, .null, .int 0, .int 0, .int 0, .int 0])), (q0, .inl (c0, 8, .inl (fun _ => 0)))] H := hP
  have hD : va_D (iA h s.heap.size) [(h, .inr (0, [.ref q0, .null, .null, .null, .null, .null, .int 0, .int 0, .int 0, .int 0])), (q0, .inl (c0, 8, .inl (fun _ => 0)))] := hD
  refine lv_aload_n hx hb dX0_init_12 rfl (lv_at hl 0 rfl) ?_
  refine lv_bipush (v := 8) hx hb dX0_init_13 (by decide) ?_
  refine va_newa (atype := .int) (n := 8) (ty := .int) (N' := 8) (a0 := (8, .inl (fun _ => 0))) hx hb (hts (.arrayClass .int) gw_34) rfl hK hP hD hS hA (fun _ => rfl) (by decide) (by decide +kernel) (by decide +kernel) (Nat.le_of_ble_eq_true rfl) (Nat.le_of_ble_eq_true rfl) dX0_init_15 (fun q1 c1 H hK hP hD hS => ?_)
  have hP : va_P D vwCl [(h, .inr (0, [.ref q0, .null, .null, .null, .null, .null, .int 0, .int 0, .int 0, .int 0])), (q0, .inl (c0, 8, .inl (fun _ => 0))), (q1, .inl (c1, 8, .inl (fun _ => 0)))] H := hP
  have hD : va_D (iA h s.heap.size) [(h, .inr (0, [.ref q0, .null, .null, .null, .null, .null, .int 0, .int 0, .int 0, .int 0])), (q0, .inl (c0, 8, .inl (fun _ => 0))), (q1, .inl (c1, 8, .inl (fun _ => 0)))] := hD
  refine va_putF (D := D) (ci := 0) (v := .ref q1) (ty := .array .int) (C := RX0) (T := TX0) (N := 10) hx hb hts inX0 tyX0 tyX0_ok nmX0 hown hK hP hD hS 0 rfl rfl 1 (by decide) (hts (.fieldLink RX0 13 "SnoopBus" "lineBlocks" "[I") gw_25) (fun _ h9 => h9) rfl hin rfl (by decide +kernel) rfl rfl (Nat.le_of_ble_eq_true rfl) dX0_init_17 (fun H locs hP hD hS => ?_)
  have hP : va_P D vwCl [(h, .inr (0, [.ref q0, .ref q1, .null, .null, .null, .null, .int 0, .int 0, .int 0, .int 0])), (q0, .inl (c0, 8, .inl (fun _ => 0))), (q1, .inl (c1, 8, .inl (fun _ => 0)))] H := hP
  have hD : va_D (iA h s.heap.size) [(h, .inr (0, [.ref q0, .ref q1, .null, .null, .null, .null, .int 0, .int 0, .int 0, .int 0])), (q0, .inl (c0, 8, .inl (fun _ => 0))), (q1, .inl (c1, 8, .inl (fun _ => 0)))] := hD
  refine lv_aload_n hx hb dX0_init_20 rfl (lv_at hl 0 rfl) ?_
  refine lv_bipush (v := 16) hx hb dX0_init_21 (by decide) ?_
  refine va_newa (atype := .int) (n := 16) (ty := .int) (N' := 16) (a0 := (16, .inl (fun _ => 0))) hx hb (hts (.arrayClass .int) gw_34) rfl hK hP hD hS hA (fun _ => rfl) (by decide) (by decide +kernel) (by decide +kernel) (Nat.le_of_ble_eq_true rfl) (Nat.le_of_ble_eq_true rfl) dX0_init_23 (fun q2 c2 H hK hP hD hS => ?_)
  have hP : va_P D vwCl [(h, .inr (0, [.ref q0, .ref q1, .null, .null, .null, .null, .int 0, .int 0, .int 0, .int 0])), (q0, .inl (c0, 8, .inl (fun _ => 0))), (q1, .inl (c1, 8, .inl (fun _ => 0))), (q2, .inl (c2, 16, .inl (fun _ => 0)))] H := hP
  have hD : va_D (iA h s.heap.size) [(h, .inr (0, [.ref q0, .ref q1, .null, .null, .null, .null, .int 0, .int 0, .int 0, .int 0])), (q0, .inl (c0, 8, .inl (fun _ => 0))), (q1, .inl (c1, 8, .inl (fun _ => 0))), (q2, .inl (c2, 16, .inl (fun _ => 0)))] := hD
  refine va_putF (D := D) (ci := 0) (v := .ref q2) (ty := .array .int) (C := RX0) (T := TX0) (N := 10) hx hb hts inX0 tyX0 tyX0_ok nmX0 hown hK hP hD hS 0 rfl rfl 2 (by decide) (hts (.fieldLink RX0 16 "SnoopBus" "lineWords" "[I") gw_26) (fun _ h9 => h9) rfl hin rfl (by decide +kernel) rfl rfl (Nat.le_of_ble_eq_true rfl) dX0_init_25 (fun H locs hP hD hS => ?_)
  have hP : va_P D vwCl [(h, .inr (0, [.ref q0, .ref q1, .ref q2, .null, .null, .null, .int 0, .int 0, .int 0, .int 0])), (q0, .inl (c0, 8, .inl (fun _ => 0))), (q1, .inl (c1, 8, .inl (fun _ => 0))), (q2, .inl (c2, 16, .inl (fun _ => 0)))] H := hP
  have hD : va_D (iA h s.heap.size) [(h, .inr (0, [.ref q0, .ref q1, .ref q2, .null, .null, .null, .int 0, .int 0, .int 0, .int 0])), (q0, .inl (c0, 8, .inl (fun _ => 0))), (q1, .inl (c1, 8, .inl (fun _ => 0))), (q2, .inl (c2, 16, .inl (fun _ => 0)))] := hD
  refine lv_aload_n hx hb dX0_init_28 rfl (lv_at hl 0 rfl) ?_
  refine lv_bipush (v := 32) hx hb dX0_init_29 (by decide) ?_
  refine va_newa (atype := .int) (n := 32) (ty := .int) (N' := 32) (a0 := (32, .inl (fun _ => 0))) hx hb (hts (.arrayClass .int) gw_34) rfl hK hP hD hS hA (fun _ => rfl) (by decide) (by decide +kernel) (by decide +kernel) (Nat.le_of_ble_eq_true rfl) (Nat.le_of_ble_eq_true rfl) dX0_init_31 (fun q3 c3 H hK hP hD hS => ?_)
  have hP : va_P D vwCl [(h, .inr (0, [.ref q0, .ref q1, .ref q2, .null, .null, .null, .int 0, .int 0, .int 0, .int 0])), (q0, .inl (c0, 8, .inl (fun _ => 0))), (q1, .inl (c1, 8, .inl (fun _ => 0))), (q2, .inl (c2, 16, .inl (fun _ => 0))), (q3, .inl (c3, 32, .inl (fun _ => 0)))] H := hP
  have hD : va_D (iA h s.heap.size) [(h, .inr (0, [.ref q0, .ref q1, .ref q2, .null, .null, .null, .int 0, .int 0, .int 0, .int 0])), (q0, .inl (c0, 8, .inl (fun _ => 0))), (q1, .inl (c1, 8, .inl (fun _ => 0))), (q2, .inl (c2, 16, .inl (fun _ => 0))), (q3, .inl (c3, 32, .inl (fun _ => 0)))] := hD
  refine va_putF (D := D) (ci := 0) (v := .ref q3) (ty := .array .int) (C := RX0) (T := TX0) (N := 10) hx hb hts inX0 tyX0 tyX0_ok nmX0 hown hK hP hD hS 0 rfl rfl 3 (by decide) (hts (.fieldLink RX0 19 "SnoopBus" "memoryWords" "[I") gw_27) (fun _ h9 => h9) rfl hin rfl (by decide +kernel) rfl rfl (Nat.le_of_ble_eq_true rfl) dX0_init_33 (fun H locs hP hD hS => ?_)
  have hP : va_P D vwCl [(h, .inr (0, [.ref q0, .ref q1, .ref q2, .ref q3, .null, .null, .int 0, .int 0, .int 0, .int 0])), (q0, .inl (c0, 8, .inl (fun _ => 0))), (q1, .inl (c1, 8, .inl (fun _ => 0))), (q2, .inl (c2, 16, .inl (fun _ => 0))), (q3, .inl (c3, 32, .inl (fun _ => 0)))] H := hP
  have hD : va_D (iA h s.heap.size) [(h, .inr (0, [.ref q0, .ref q1, .ref q2, .ref q3, .null, .null, .int 0, .int 0, .int 0, .int 0])), (q0, .inl (c0, 8, .inl (fun _ => 0))), (q1, .inl (c1, 8, .inl (fun _ => 0))), (q2, .inl (c2, 16, .inl (fun _ => 0))), (q3, .inl (c3, 32, .inl (fun _ => 0)))] := hD
  refine lv_aload_n hx hb dX0_init_36 rfl (lv_at hl 0 rfl) ?_
  refine lv_iconst (v := 5) hx hb dX0_init_37 (by decide) ?_
  refine va_newa (atype := .int) (n := 5) (ty := .int) (N' := 5) (a0 := (5, .inl (fun _ => 0))) hx hb (hts (.arrayClass .int) gw_34) rfl hK hP hD hS hA (fun _ => rfl) (by decide) (by decide +kernel) (by decide +kernel) (Nat.le_of_ble_eq_true rfl) (Nat.le_of_ble_eq_true rfl) dX0_init_38 (fun q4 c4 H hK hP hD hS => ?_)
  have hP : va_P D vwCl [(h, .inr (0, [.ref q0, .ref q1, .ref q2, .ref q3, .null, .null, .int 0, .int 0, .int 0, .int 0])), (q0, .inl (c0, 8, .inl (fun _ => 0))), (q1, .inl (c1, 8, .inl (fun _ => 0))), (q2, .inl (c2, 16, .inl (fun _ => 0))), (q3, .inl (c3, 32, .inl (fun _ => 0))), (q4, .inl (c4, 5, .inl (fun _ => 0)))] H := hP
  have hD : va_D (iA h s.heap.size) [(h, .inr (0, [.ref q0, .ref q1, .ref q2, .ref q3, .null, .null, .int 0, .int 0, .int 0, .int 0])), (q0, .inl (c0, 8, .inl (fun _ => 0))), (q1, .inl (c1, 8, .inl (fun _ => 0))), (q2, .inl (c2, 16, .inl (fun _ => 0))), (q3, .inl (c3, 32, .inl (fun _ => 0))), (q4, .inl (c4, 5, .inl (fun _ => 0)))] := hD
  refine va_putF (D := D) (ci := 0) (v := .ref q4) (ty := .array .int) (C := RX0) (T := TX0) (N := 10) hx hb hts inX0 tyX0 tyX0_ok nmX0 hown hK hP hD hS 0 rfl rfl 4 (by decide) (hts (.fieldLink RX0 22 "SnoopBus" "kindCounts" "[I") gw_28) (fun _ h9 => h9) rfl hin rfl (by decide +kernel) rfl rfl (Nat.le_of_ble_eq_true rfl) dX0_init_40 (fun H locs hP hD hS => ?_)
  have hP : va_P D vwCl [(h, .inr (0, [.ref q0, .ref q1, .ref q2, .ref q3, .ref q4, .null, .int 0, .int 0, .int 0, .int 0])), (q0, .inl (c0, 8, .inl (fun _ => 0))), (q1, .inl (c1, 8, .inl (fun _ => 0))), (q2, .inl (c2, 16, .inl (fun _ => 0))), (q3, .inl (c3, 32, .inl (fun _ => 0))), (q4, .inl (c4, 5, .inl (fun _ => 0)))] H := hP
  have hD : va_D (iA h s.heap.size) [(h, .inr (0, [.ref q0, .ref q1, .ref q2, .ref q3, .ref q4, .null, .int 0, .int 0, .int 0, .int 0])), (q0, .inl (c0, 8, .inl (fun _ => 0))), (q1, .inl (c1, 8, .inl (fun _ => 0))), (q2, .inl (c2, 16, .inl (fun _ => 0))), (q3, .inl (c3, 32, .inl (fun _ => 0))), (q4, .inl (c4, 5, .inl (fun _ => 0)))] := hD
  refine lv_aload_n hx hb dX0_init_43 rfl (lv_at hl 0 rfl) ?_
  refine lv_bipush (v := 8) hx hb dX0_init_44 (by decide) ?_
  refine va_newa (atype := .int) (n := 8) (ty := .int) (N' := 8) (a0 := (8, .inl (fun _ => 0))) hx hb (hts (.arrayClass .int) gw_34) rfl hK hP hD hS hA (fun _ => rfl) (by decide) (by decide +kernel) (by decide +kernel) (Nat.le_of_ble_eq_true rfl) (Nat.le_of_ble_eq_true rfl) dX0_init_46 (fun q5 c5 H hK hP hD hS => ?_)
  have hP : va_P D vwCl [(h, .inr (0, [.ref q0, .ref q1, .ref q2, .ref q3, .ref q4, .null, .int 0, .int 0, .int 0, .int 0])), (q0, .inl (c0, 8, .inl (fun _ => 0))), (q1, .inl (c1, 8, .inl (fun _ => 0))), (q2, .inl (c2, 16, .inl (fun _ => 0))), (q3, .inl (c3, 32, .inl (fun _ => 0))), (q4, .inl (c4, 5, .inl (fun _ => 0))), (q5, .inl (c5, 8, .inl (fun _ => 0)))] H := hP
  have hD : va_D (iA h s.heap.size) [(h, .inr (0, [.ref q0, .ref q1, .ref q2, .ref q3, .ref q4, .null, .int 0, .int 0, .int 0, .int 0])), (q0, .inl (c0, 8, .inl (fun _ => 0))), (q1, .inl (c1, 8, .inl (fun _ => 0))), (q2, .inl (c2, 16, .inl (fun _ => 0))), (q3, .inl (c3, 32, .inl (fun _ => 0))), (q4, .inl (c4, 5, .inl (fun _ => 0))), (q5, .inl (c5, 8, .inl (fun _ => 0)))] := hD
  refine va_putF (D := D) (ci := 0) (v := .ref q5) (ty := .array .int) (C := RX0) (T := TX0) (N := 10) hx hb hts inX0 tyX0 tyX0_ok nmX0 hown hK hP hD hS 0 rfl rfl 5 (by decide) (hts (.fieldLink RX0 25 "SnoopBus" "recent" "[I") gw_29) (fun _ h9 => h9) rfl hin rfl (by decide +kernel) rfl rfl (Nat.le_of_ble_eq_true rfl) dX0_init_48 (fun H locs hP hD hS => ?_)
  have hP : va_P D vwCl [(h, .inr (0, [.ref q0, .ref q1, .ref q2, .ref q3, .ref q4, .ref q5, .int 0, .int 0, .int 0, .int 0])), (q0, .inl (c0, 8, .inl (fun _ => 0))), (q1, .inl (c1, 8, .inl (fun _ => 0))), (q2, .inl (c2, 16, .inl (fun _ => 0))), (q3, .inl (c3, 32, .inl (fun _ => 0))), (q4, .inl (c4, 5, .inl (fun _ => 0))), (q5, .inl (c5, 8, .inl (fun _ => 0)))] H := hP
  have hD : va_D (iA h s.heap.size) [(h, .inr (0, [.ref q0, .ref q1, .ref q2, .ref q3, .ref q4, .ref q5, .int 0, .int 0, .int 0, .int 0])), (q0, .inl (c0, 8, .inl (fun _ => 0))), (q1, .inl (c1, 8, .inl (fun _ => 0))), (q2, .inl (c2, 16, .inl (fun _ => 0))), (q3, .inl (c3, 32, .inl (fun _ => 0))), (q4, .inl (c4, 5, .inl (fun _ => 0))), (q5, .inl (c5, 8, .inl (fun _ => 0)))] := hD
  obtain rfl : c0 = c1 := (ra_same (hK.2 0 _ rfl).2 (hK.2 1 _ rfl).2).symm
  obtain rfl : c0 = c2 := (ra_same (hK.2 0 _ rfl).2 (hK.2 2 _ rfl).2).symm
  obtain rfl : c0 = c3 := (ra_same (hK.2 0 _ rfl).2 (hK.2 3 _ rfl).2).symm
  obtain rfl : c0 = c4 := (ra_same (hK.2 0 _ rfl).2 (hK.2 4 _ rfl).2).symm
  obtain rfl : c0 = c5 := (ra_same (hK.2 0 _ rfl).2 (hK.2 5 _ rfl).2).symm
  have hK1 : va_K D vwCl [(c0, .int)] s := hK.sub [0] rfl
  have hw : xW D (o_x h q0 q1 q2 q3 q4 q5) c0 (iA h s.heap.size) s s.heap S00 H locs := ⟨hP, hD, hS, hK1, hA⟩
  refine lv_aload_n hx hb dX0_init_51 rfl (lv_at hl 0 rfl) ?_
  refine lv_iconst (v := 0) hx hb dX0_init_52 (by decide) ?_
  refine x_cv (o := (o_x h q0 q1 q2 q3 q4 q5)) (rest := []) ⟨hx, hb, hml, hown, hts⟩ (cx_startOver l D (o_x h q0 q1 q2 q3 q4 q5) c0 S00 0) (cwx_startOver hts ⟨by decide, by decide⟩) hw rfl hl.1 rfl (Nat.le_of_ble_eq_true rfl) dX0_init_53 ⟨by decide, by decide⟩ (fun H locs hw => ?_)
  obtain ⟨hP, hD, hS, -, -⟩ := hw
  exact W.vret hx hb hr (fun t ht hW => ⟨⟨(), rfl, trivial, (o_x h q0 q1 q2 q3 q4 q5), c0, rfl, by rw [ht]; exact hP, va_K.moved hW.alike hK1, hD⟩, hS.F ht⟩) hS.2.2 dX0_init_56
def o_m (a0 a1 a2 a3 a4 a5 : Nat) : Nat → Nat := fun k => match k with
  | 0 => a0
  | 1 => a1
  | 2 => a2
  | 3 => a3
  | 4 => a4
  | _ => a5
def rmIm : Room := { frames := 2, cells := 5, slots := 237, locals := 80 }
def mIPre (D : va_G) (h sz : Nat) (U : State) : Prop := U.heap.size = sz ∧ va_P D vwCl [(h, .inr (1, [.null, .null, .null, .null, .null, .int 0, .int 0, .int 0, .int 0, .int 0]))] U.heap ∧ va_K D vwCl [] U
def mIQ (D : va_G) (h sz : Nat) : Array Value → State → Outcome → State → Prop := va_Qv (fun (_ : Unit) => True) (fun _ t => ∃ (o : Nat → Nat) (cA : ClassId), o 0 = h ∧ va_P D vwCl (mw o cA (zF S00 0 0)) t.heap ∧ va_K D vwCl [(cA, .int)] t ∧ va_D (iA h sz) (mw o cA (zF S00 0 0))) (iA h sz)
set_option maxRecDepth 100000 in
set_option maxHeartbeats 4000000 in
theorem cm_init (l : Launch) (D : va_G) (h sz : Nat) : Met l yX1_init (.code yX1_init cX1_init 1 none :: GT) rmIm (va_Pc [.ref h] (mIPre D h sz)) (mIQ D h sz) 5 237 (iA h sz) := by
  refine Met.ofW (cc := cX1_init) (maxL := 1) (ret := none) (by decide) rfl ?_
  intro P0 e s m args below meth c s₁ B hml hv
  obtain ⟨rfl, hsz, hP, hK⟩ := hv
  subst hsz
  have hx := B.exec
  have hb := B.bytes
  have hr := B.returns
  have hlocks := B.notSynchronized
  have hts0 := atoms_spec (ws := Cond.code yX1_init cX1_init 1 none :: GT) B.pre
  have hts : ∀ w ∈ GT, w.before [Value.ref h].toArray s = true := fun w hw => hts0 w (List.mem_cons_of_mem _ hw)
  have hown : s.vm.findClass RX1 = some m.cls := findClass_of_methodNamed B.named
  have hin : meth.name = "<init>" := (name_of_methodNamed B.named B.method).1
  have hl := lv_entry [Value.ref h] (n := 1) (Nat.le_of_ble_eq_true rfl)
  rw [lg_entry_eq]
  generalize (lg_sl [Value.ref h] ++ List.replicate (1 - (lg_sl [Value.ref h]).length) Slot.unset).toArray = ls at hl ⊢
  have hl : lv_has ls 1 [(0, .ref h)] := hl
  have hD : va_D (iA h s.heap.size) [(h, .inr (1, [.null, .null, .null, .null, .null, .int 0, .int 0, .int 0, .int 0, .int 0]))] := ⟨fun i j p q hp hq _ => by
    have h1 := (List.getElem?_eq_some_iff.mp hp).1
    have h2 := (List.getElem?_eq_some_iff.mp hq).1
    simp at h1 h2
    omega, fun k p hk => by
    have h1 := (List.getElem?_eq_some_iff.mp hk).1
    simp at h1
    subst h1
    have h2 := Option.some.inj hk
    rw [← h2]
    exact Or.inl rfl⟩
  have hS : va_S (iA h s.heap.size) s.heap s.heap [] := va_S.rf
  have hA : ∀ q, s.heap.size ≤ q → iA h s.heap.size q := fun q hq => Or.inr hq
  refine lv_aload_n hx hb dX1_init_0 rfl (lv_at hl 0 rfl) ?_
  refine W.objInit hx hb hown (hts (.methodLink RX1 1 objectInit) gw_177) (hts (.instanceMethod objectInit) gw_16) (hts (.code objectInit ⟨#[0xb1]⟩ 1 none) gw_17) rfl (by rw [hml]; exact hl.1) rfl dX1_init_1 (Nat.le_of_ble_eq_true rfl) (Nat.le_of_ble_eq_true rfl) ?_
  refine W.eq (g2 := F0 m 4 ls []) rfl ?_
  refine lv_aload_n hx hb dX1_init_4 rfl (lv_at hl 0 rfl) ?_
  refine lv_bipush (v := 64) hx hb dX1_init_5 (by decide) ?_
  refine va_newa (atype := .int) (n := 64) (ty := .int) (N' := 64) (a0 := (64, .inl (fun _ => 0))) hx hb (hts (.arrayClass .int) gw_34) rfl hK hP hD hS hA (fun _ => rfl) (by decide) (by decide +kernel) (by decide +kernel) (Nat.le_of_ble_eq_true rfl) (Nat.le_of_ble_eq_true rfl) dX1_init_7 (fun q0 c0 H hK hP hD hS => ?_)
  have hP : va_P D vwCl [(h, .inr (1, [.null, .null, .null, .null, .null, .int 0, .int 0, .int 0, .int 0, .int 0])), (q0, .inl (c0, 64, .inl (fun _ => 0)))] H := hP
  have hD : va_D (iA h s.heap.size) [(h, .inr (1, [.null, .null, .null, .null, .null, .int 0, .int 0, .int 0, .int 0, .int 0])), (q0, .inl (c0, 64, .inl (fun _ => 0)))] := hD
  refine va_putF (D := D) (ci := 1) (v := .ref q0) (ty := .array .int) (C := RX1) (T := TX1) (N := 10) hx hb hts inX1 tyX1 tyX1_ok nmX1 hown hK hP hD hS 0 rfl rfl 0 (by decide) (hts (.fieldLink RX1 7 "SnoopBusModel" "states" "[I") gw_178) (fun _ h9 => h9) rfl hin rfl (by decide +kernel) rfl rfl (Nat.le_of_ble_eq_true rfl) dX1_init_9 (fun H locs hP hD hS => ?_)
  have hP : va_P D vwCl [(h, .inr (1, [.ref q0, .null, .null, .null, .null, .int 0, .int 0, .int 0, .int 0, .int 0])), (q0, .inl (c0, 64, .inl (fun _ => 0)))] H := hP
  have hD : va_D (iA h s.heap.size) [(h, .inr (1, [.ref q0, .null, .null, .null, .null, .int 0, .int 0, .int 0, .int 0, .int 0])), (q0, .inl (c0, 64, .inl (fun _ => 0)))] := hD
  refine lv_aload_n hx hb dX1_init_12 rfl (lv_at hl 0 rfl) ?_
  refine lv_sipush (v := 128) hx hb dX1_init_13 (by decide) ?_
  refine va_newa (atype := .int) (n := 128) (ty := .int) (N' := 128) (a0 := (128, .inl (fun _ => 0))) hx hb (hts (.arrayClass .int) gw_34) rfl hK hP hD hS hA (fun _ => rfl) (by decide) (by decide +kernel) (by decide +kernel) (Nat.le_of_ble_eq_true rfl) (Nat.le_of_ble_eq_true rfl) dX1_init_16 (fun q1 c1 H hK hP hD hS => ?_)
  have hP : va_P D vwCl [(h, .inr (1, [.ref q0, .null, .null, .null, .null, .int 0, .int 0, .int 0, .int 0, .int 0])), (q0, .inl (c0, 64, .inl (fun _ => 0))), (q1, .inl (c1, 128, .inl (fun _ => 0)))] H := hP
  have hD : va_D (iA h s.heap.size) [(h, .inr (1, [.ref q0, .null, .null, .null, .null, .int 0, .int 0, .int 0, .int 0, .int 0])), (q0, .inl (c0, 64, .inl (fun _ => 0))), (q1, .inl (c1, 128, .inl (fun _ => 0)))] := hD
  refine va_putF (D := D) (ci := 1) (v := .ref q1) (ty := .array .int) (C := RX1) (T := TX1) (N := 10) hx hb hts inX1 tyX1 tyX1_ok nmX1 hown hK hP hD hS 0 rfl rfl 1 (by decide) (hts (.fieldLink RX1 13 "SnoopBusModel" "words" "[I") gw_179) (fun _ h9 => h9) rfl hin rfl (by decide +kernel) rfl rfl (Nat.le_of_ble_eq_true rfl) dX1_init_18 (fun H locs hP hD hS => ?_)
  have hP : va_P D vwCl [(h, .inr (1, [.ref q0, .ref q1, .null, .null, .null, .int 0, .int 0, .int 0, .int 0, .int 0])), (q0, .inl (c0, 64, .inl (fun _ => 0))), (q1, .inl (c1, 128, .inl (fun _ => 0)))] H := hP
  have hD : va_D (iA h s.heap.size) [(h, .inr (1, [.ref q0, .ref q1, .null, .null, .null, .int 0, .int 0, .int 0, .int 0, .int 0])), (q0, .inl (c0, 64, .inl (fun _ => 0))), (q1, .inl (c1, 128, .inl (fun _ => 0)))] := hD
  refine lv_aload_n hx hb dX1_init_21 rfl (lv_at hl 0 rfl) ?_
  refine lv_bipush (v := 32) hx hb dX1_init_22 (by decide) ?_
  refine va_newa (atype := .int) (n := 32) (ty := .int) (N' := 32) (a0 := (32, .inl (fun _ => 0))) hx hb (hts (.arrayClass .int) gw_34) rfl hK hP hD hS hA (fun _ => rfl) (by decide) (by decide +kernel) (by decide +kernel) (Nat.le_of_ble_eq_true rfl) (Nat.le_of_ble_eq_true rfl) dX1_init_24 (fun q2 c2 H hK hP hD hS => ?_)
  have hP : va_P D vwCl [(h, .inr (1, [.ref q0, .ref q1, .null, .null, .null, .int 0, .int 0, .int 0, .int 0, .int 0])), (q0, .inl (c0, 64, .inl (fun _ => 0))), (q1, .inl (c1, 128, .inl (fun _ => 0))), (q2, .inl (c2, 32, .inl (fun _ => 0)))] H := hP
  have hD : va_D (iA h s.heap.size) [(h, .inr (1, [.ref q0, .ref q1, .null, .null, .null, .int 0, .int 0, .int 0, .int 0, .int 0])), (q0, .inl (c0, 64, .inl (fun _ => 0))), (q1, .inl (c1, 128, .inl (fun _ => 0))), (q2, .inl (c2, 32, .inl (fun _ => 0)))] := hD
  refine va_putF (D := D) (ci := 1) (v := .ref q2) (ty := .array .int) (C := RX1) (T := TX1) (N := 10) hx hb hts inX1 tyX1 tyX1_ok nmX1 hown hK hP hD hS 0 rfl rfl 2 (by decide) (hts (.fieldLink RX1 16 "SnoopBusModel" "memory" "[I") gw_180) (fun _ h9 => h9) rfl hin rfl (by decide +kernel) rfl rfl (Nat.le_of_ble_eq_true rfl) dX1_init_26 (fun H locs hP hD hS => ?_)
  have hP : va_P D vwCl [(h, .inr (1, [.ref q0, .ref q1, .ref q2, .null, .null, .int 0, .int 0, .int 0, .int 0, .int 0])), (q0, .inl (c0, 64, .inl (fun _ => 0))), (q1, .inl (c1, 128, .inl (fun _ => 0))), (q2, .inl (c2, 32, .inl (fun _ => 0)))] H := hP
  have hD : va_D (iA h s.heap.size) [(h, .inr (1, [.ref q0, .ref q1, .ref q2, .null, .null, .int 0, .int 0, .int 0, .int 0, .int 0])), (q0, .inl (c0, 64, .inl (fun _ => 0))), (q1, .inl (c1, 128, .inl (fun _ => 0))), (q2, .inl (c2, 32, .inl (fun _ => 0)))] := hD
  refine lv_aload_n hx hb dX1_init_29 rfl (lv_at hl 0 rfl) ?_
  refine lv_iconst (v := 5) hx hb dX1_init_30 (by decide) ?_
  refine va_newa (atype := .int) (n := 5) (ty := .int) (N' := 5) (a0 := (5, .inl (fun _ => 0))) hx hb (hts (.arrayClass .int) gw_34) rfl hK hP hD hS hA (fun _ => rfl) (by decide) (by decide +kernel) (by decide +kernel) (Nat.le_of_ble_eq_true rfl) (Nat.le_of_ble_eq_true rfl) dX1_init_31 (fun q3 c3 H hK hP hD hS => ?_)
  have hP : va_P D vwCl [(h, .inr (1, [.ref q0, .ref q1, .ref q2, .null, .null, .int 0, .int 0, .int 0, .int 0, .int 0])), (q0, .inl (c0, 64, .inl (fun _ => 0))), (q1, .inl (c1, 128, .inl (fun _ => 0))), (q2, .inl (c2, 32, .inl (fun _ => 0))), (q3, .inl (c3, 5, .inl (fun _ => 0)))] H := hP
  have hD : va_D (iA h s.heap.size) [(h, .inr (1, [.ref q0, .ref q1, .ref q2, .null, .null, .int 0, .int 0, .int 0, .int 0, .int 0])), (q0, .inl (c0, 64, .inl (fun _ => 0))), (q1, .inl (c1, 128, .inl (fun _ => 0))), (q2, .inl (c2, 32, .inl (fun _ => 0))), (q3, .inl (c3, 5, .inl (fun _ => 0)))] := hD
  refine va_putF (D := D) (ci := 1) (v := .ref q3) (ty := .array .int) (C := RX1) (T := TX1) (N := 10) hx hb hts inX1 tyX1 tyX1_ok nmX1 hown hK hP hD hS 0 rfl rfl 3 (by decide) (hts (.fieldLink RX1 19 "SnoopBusModel" "counts" "[I") gw_181) (fun _ h9 => h9) rfl hin rfl (by decide +kernel) rfl rfl (Nat.le_of_ble_eq_true rfl) dX1_init_33 (fun H locs hP hD hS => ?_)
  have hP : va_P D vwCl [(h, .inr (1, [.ref q0, .ref q1, .ref q2, .ref q3, .null, .int 0, .int 0, .int 0, .int 0, .int 0])), (q0, .inl (c0, 64, .inl (fun _ => 0))), (q1, .inl (c1, 128, .inl (fun _ => 0))), (q2, .inl (c2, 32, .inl (fun _ => 0))), (q3, .inl (c3, 5, .inl (fun _ => 0)))] H := hP
  have hD : va_D (iA h s.heap.size) [(h, .inr (1, [.ref q0, .ref q1, .ref q2, .ref q3, .null, .int 0, .int 0, .int 0, .int 0, .int 0])), (q0, .inl (c0, 64, .inl (fun _ => 0))), (q1, .inl (c1, 128, .inl (fun _ => 0))), (q2, .inl (c2, 32, .inl (fun _ => 0))), (q3, .inl (c3, 5, .inl (fun _ => 0)))] := hD
  refine lv_aload_n hx hb dX1_init_36 rfl (lv_at hl 0 rfl) ?_
  refine lv_bipush (v := 8) hx hb dX1_init_37 (by decide) ?_
  refine va_newa (atype := .int) (n := 8) (ty := .int) (N' := 8) (a0 := (8, .inl (fun _ => 0))) hx hb (hts (.arrayClass .int) gw_34) rfl hK hP hD hS hA (fun _ => rfl) (by decide) (by decide +kernel) (by decide +kernel) (Nat.le_of_ble_eq_true rfl) (Nat.le_of_ble_eq_true rfl) dX1_init_39 (fun q4 c4 H hK hP hD hS => ?_)
  have hP : va_P D vwCl [(h, .inr (1, [.ref q0, .ref q1, .ref q2, .ref q3, .null, .int 0, .int 0, .int 0, .int 0, .int 0])), (q0, .inl (c0, 64, .inl (fun _ => 0))), (q1, .inl (c1, 128, .inl (fun _ => 0))), (q2, .inl (c2, 32, .inl (fun _ => 0))), (q3, .inl (c3, 5, .inl (fun _ => 0))), (q4, .inl (c4, 8, .inl (fun _ => 0)))] H := hP
  have hD : va_D (iA h s.heap.size) [(h, .inr (1, [.ref q0, .ref q1, .ref q2, .ref q3, .null, .int 0, .int 0, .int 0, .int 0, .int 0])), (q0, .inl (c0, 64, .inl (fun _ => 0))), (q1, .inl (c1, 128, .inl (fun _ => 0))), (q2, .inl (c2, 32, .inl (fun _ => 0))), (q3, .inl (c3, 5, .inl (fun _ => 0))), (q4, .inl (c4, 8, .inl (fun _ => 0)))] := hD
  refine va_putF (D := D) (ci := 1) (v := .ref q4) (ty := .array .int) (C := RX1) (T := TX1) (N := 10) hx hb hts inX1 tyX1 tyX1_ok nmX1 hown hK hP hD hS 0 rfl rfl 4 (by decide) (hts (.fieldLink RX1 22 "SnoopBusModel" "last" "[I") gw_182) (fun _ h9 => h9) rfl hin rfl (by decide +kernel) rfl rfl (Nat.le_of_ble_eq_true rfl) dX1_init_41 (fun H locs hP hD hS => ?_)
  have hP : va_P D vwCl [(h, .inr (1, [.ref q0, .ref q1, .ref q2, .ref q3, .ref q4, .int 0, .int 0, .int 0, .int 0, .int 0])), (q0, .inl (c0, 64, .inl (fun _ => 0))), (q1, .inl (c1, 128, .inl (fun _ => 0))), (q2, .inl (c2, 32, .inl (fun _ => 0))), (q3, .inl (c3, 5, .inl (fun _ => 0))), (q4, .inl (c4, 8, .inl (fun _ => 0)))] H := hP
  have hD : va_D (iA h s.heap.size) [(h, .inr (1, [.ref q0, .ref q1, .ref q2, .ref q3, .ref q4, .int 0, .int 0, .int 0, .int 0, .int 0])), (q0, .inl (c0, 64, .inl (fun _ => 0))), (q1, .inl (c1, 128, .inl (fun _ => 0))), (q2, .inl (c2, 32, .inl (fun _ => 0))), (q3, .inl (c3, 5, .inl (fun _ => 0))), (q4, .inl (c4, 8, .inl (fun _ => 0)))] := hD
  obtain rfl : c0 = c1 := (ra_same (hK.2 0 _ rfl).2 (hK.2 1 _ rfl).2).symm
  obtain rfl : c0 = c2 := (ra_same (hK.2 0 _ rfl).2 (hK.2 2 _ rfl).2).symm
  obtain rfl : c0 = c3 := (ra_same (hK.2 0 _ rfl).2 (hK.2 3 _ rfl).2).symm
  obtain rfl : c0 = c4 := (ra_same (hK.2 0 _ rfl).2 (hK.2 4 _ rfl).2).symm
  have hK1 : va_K D vwCl [(c0, .int)] s := hK.sub [0] rfl
  have hw : mW D (o_m h q0 q1 q2 q3 q4) c0 (iA h s.heap.size) s s.heap S00 H locs := ⟨hP, hD, hS, hK1, hA⟩
  refine lv_aload_n hx hb dX1_init_44 rfl (lv_at hl 0 rfl) ?_
  refine lv_iconst (v := 0) hx hb dX1_init_45 (by decide) ?_
  refine m_p0 (o := (o_m h q0 q1 q2 q3 q4)) (x := 0) hx hb hts hown hw dX1_init_46 (fun H locs hw => ?_)
  obtain ⟨hP, hD, hS, -, -⟩ := hw
  exact W.vret hx hb hr (fun t ht hW => ⟨⟨(), rfl, trivial, (o_m h q0 q1 q2 q3 q4), c0, rfl, by rw [ht]; exact hP, va_K.moved hW.alike hK1, hD⟩, hS.F ht⟩) hS.2.2 dX1_init_49
end
section
theorem dL_read_0 : decode cL_read 0 = .ok (.aload_n 3, 1) := by decide +kernel
theorem dL_read_1 : decode cL_read 1 = .ok (.iconst 0, 1) := by decide +kernel
theorem dL_read_2 : decode cL_read 2 = .ok (.aload_n 0, 1) := by decide +kernel
theorem dL_read_3 : decode cL_read 3 = .ok (.iload_n 1, 1) := by decide +kernel
theorem dL_read_4 : decode cL_read 4 = .ok (.iload_n 2, 1) := by decide +kernel
theorem dL_read_5 : decode cL_read 5 = .ok (.invokevirtual 7, 3) := by decide +kernel
theorem dL_read_8 : decode cL_read 8 = .ok (.i2l, 1) := by decide +kernel
theorem dL_read_9 : decode cL_read 9 = .ok (.lastore, 1) := by decide +kernel
theorem dL_read_10 : decode cL_read 10 = .ok (.goto 7, 3) := by decide +kernel
theorem dL_read_13 : decode cL_read 13 = .ok (.astore 4, 2) := by decide +kernel
theorem dL_read_15 : decode cL_read 15 = .ok (.iconst 1, 1) := by decide +kernel
theorem dL_read_16 : decode cL_read 16 = .ok (.ireturn, 1) := by decide +kernel
theorem dL_read_17 : decode cL_read 17 = .ok (.iconst 0, 1) := by decide +kernel
theorem dL_read_18 : decode cL_read 18 = .ok (.ireturn, 1) := by decide +kernel
theorem dL_write_0 : decode cL_write 0 = .ok (.aload 4, 2) := by decide +kernel
theorem dL_write_2 : decode cL_write 2 = .ok (.iconst 0, 1) := by decide +kernel
theorem dL_write_3 : decode cL_write 3 = .ok (.aload_n 0, 1) := by decide +kernel
theorem dL_write_4 : decode cL_write 4 = .ok (.iload_n 1, 1) := by decide +kernel
theorem dL_write_5 : decode cL_write 5 = .ok (.iload_n 2, 1) := by decide +kernel
theorem dL_write_6 : decode cL_write 6 = .ok (.iload_n 3, 1) := by decide +kernel
theorem dL_write_7 : decode cL_write 7 = .ok (.invokevirtual 15, 3) := by decide +kernel
theorem dL_write_10 : decode cL_write 10 = .ok (.i2l, 1) := by decide +kernel
theorem dL_write_11 : decode cL_write 11 = .ok (.lastore, 1) := by decide +kernel
theorem dL_write_12 : decode cL_write 12 = .ok (.goto 7, 3) := by decide +kernel
theorem dL_write_15 : decode cL_write 15 = .ok (.astore 5, 2) := by decide +kernel
theorem dL_write_17 : decode cL_write 17 = .ok (.iconst 1, 1) := by decide +kernel
theorem dL_write_18 : decode cL_write 18 = .ok (.ireturn, 1) := by decide +kernel
theorem dL_write_19 : decode cL_write 19 = .ok (.iconst 0, 1) := by decide +kernel
theorem dL_write_20 : decode cL_write 20 = .ok (.ireturn, 1) := by decide +kernel
theorem dL_evict_0 : decode cL_evict 0 = .ok (.aload_n 3, 1) := by decide +kernel
theorem dL_evict_1 : decode cL_evict 1 = .ok (.iconst 0, 1) := by decide +kernel
theorem dL_evict_2 : decode cL_evict 2 = .ok (.aload_n 0, 1) := by decide +kernel
theorem dL_evict_3 : decode cL_evict 3 = .ok (.iload_n 1, 1) := by decide +kernel
theorem dL_evict_4 : decode cL_evict 4 = .ok (.iload_n 2, 1) := by decide +kernel
theorem dL_evict_5 : decode cL_evict 5 = .ok (.invokevirtual 19, 3) := by decide +kernel
theorem dL_evict_8 : decode cL_evict 8 = .ok (.ifCond .eq 7, 3) := by decide +kernel
theorem dL_evict_11 : decode cL_evict 11 = .ok (.lconst 1, 1) := by decide +kernel
theorem dL_evict_12 : decode cL_evict 12 = .ok (.goto 4, 3) := by decide +kernel
theorem dL_evict_15 : decode cL_evict 15 = .ok (.lconst 0, 1) := by decide +kernel
theorem dL_evict_16 : decode cL_evict 16 = .ok (.lastore, 1) := by decide +kernel
theorem dL_evict_17 : decode cL_evict 17 = .ok (.goto 11, 3) := by decide +kernel
theorem dL_evict_20 : decode cL_evict 20 = .ok (.astore 4, 2) := by decide +kernel
theorem dL_evict_22 : decode cL_evict 22 = .ok (.iconst 1, 1) := by decide +kernel
theorem dL_evict_23 : decode cL_evict 23 = .ok (.ireturn, 1) := by decide +kernel
theorem dL_evict_24 : decode cL_evict 24 = .ok (.astore 4, 2) := by decide +kernel
theorem dL_evict_26 : decode cL_evict 26 = .ok (.iconst 2, 1) := by decide +kernel
theorem dL_evict_27 : decode cL_evict 27 = .ok (.ireturn, 1) := by decide +kernel
theorem dL_evict_28 : decode cL_evict 28 = .ok (.iconst 0, 1) := by decide +kernel
theorem dL_evict_29 : decode cL_evict 29 = .ok (.ireturn, 1) := by decide +kernel
theorem dL_law_0 : decode code 0 = .ok (.new 8, 3) := by decide +kernel
theorem dL_law_3 : decode code 3 = .ok (.dup, 1) := by decide +kernel
theorem dL_law_4 : decode code 4 = .ok (.invokespecial 25, 3) := by decide +kernel
theorem dL_law_7 : decode code 7 = .ok (.astore_n 1, 1) := by decide +kernel
theorem dL_law_8 : decode code 8 = .ok (.new 26, 3) := by decide +kernel
theorem dL_law_11 : decode code 11 = .ok (.dup, 1) := by decide +kernel
theorem dL_law_12 : decode code 12 = .ok (.invokespecial 28, 3) := by decide +kernel
theorem dL_law_15 : decode code 15 = .ok (.astore_n 2, 1) := by decide +kernel
theorem dL_law_16 : decode code 16 = .ok (.iconst 1, 1) := by decide +kernel
theorem dL_law_17 : decode code 17 = .ok (.newarray .long, 2) := by decide +kernel
theorem dL_law_19 : decode code 19 = .ok (.astore_n 3, 1) := by decide +kernel
theorem dL_law_20 : decode code 20 = .ok (.iconst 0, 1) := by decide +kernel
theorem dL_law_21 : decode code 21 = .ok (.istore 4, 2) := by decide +kernel
theorem dL_law_23 : decode code 23 = .ok (.iload 4, 2) := by decide +kernel
theorem dL_law_25 : decode code 25 = .ok (.aload_n 0, 1) := by decide +kernel
theorem dL_law_26 : decode code 26 = .ok (.arraylength, 1) := by decide +kernel
theorem dL_law_27 : decode code 27 = .ok (.iconst 4, 1) := by decide +kernel
theorem dL_law_28 : decode code 28 = .ok (.isub, 1) := by decide +kernel
theorem dL_law_29 : decode code 29 = .ok (.if_icmp .gt 530, 3) := by decide +kernel
theorem dL_law_32 : decode code 32 = .ok (.aload_n 0, 1) := by decide +kernel
theorem dL_law_33 : decode code 33 = .ok (.iload 4, 2) := by decide +kernel
theorem dL_law_35 : decode code 35 = .ok (.iaload, 1) := by decide +kernel
theorem dL_law_36 : decode code 36 = .ok (.bipush 15, 2) := by decide +kernel
theorem dL_law_38 : decode code 38 = .ok (.iand, 1) := by decide +kernel
theorem dL_law_39 : decode code 39 = .ok (.tableswitch 514 0 12 #[65, 90, 103, 171, 251, 326, 339, 376, 413, 438, 463, 476, 489], 65) := by decide +kernel
theorem dL_law_104 : decode code 104 = .ok (.aload_n 1, 1) := by decide +kernel
theorem dL_law_105 : decode code 105 = .ok (.aload_n 0, 1) := by decide +kernel
theorem dL_law_106 : decode code 106 = .ok (.iload 4, 2) := by decide +kernel
theorem dL_law_108 : decode code 108 = .ok (.iconst 1, 1) := by decide +kernel
theorem dL_law_109 : decode code 109 = .ok (.iadd, 1) := by decide +kernel
theorem dL_law_110 : decode code 110 = .ok (.iaload, 1) := by decide +kernel
theorem dL_law_111 : decode code 111 = .ok (.invokevirtual 29, 3) := by decide +kernel
theorem dL_law_114 : decode code 114 = .ok (.aload_n 2, 1) := by decide +kernel
theorem dL_law_115 : decode code 115 = .ok (.aload_n 0, 1) := by decide +kernel
theorem dL_law_116 : decode code 116 = .ok (.iload 4, 2) := by decide +kernel
theorem dL_law_118 : decode code 118 = .ok (.iconst 1, 1) := by decide +kernel
theorem dL_law_119 : decode code 119 = .ok (.iadd, 1) := by decide +kernel
theorem dL_law_120 : decode code 120 = .ok (.iaload, 1) := by decide +kernel
theorem dL_law_121 : decode code 121 = .ok (.invokevirtual 33, 3) := by decide +kernel
theorem dL_law_124 : decode code 124 = .ok (.if_icmp .eq 429, 3) := by decide +kernel
theorem dL_law_127 : decode code 127 = .ok (.iconst 0, 1) := by decide +kernel
theorem dL_law_128 : decode code 128 = .ok (.ireturn, 1) := by decide +kernel
theorem dL_law_129 : decode code 129 = .ok (.aload_n 1, 1) := by decide +kernel
theorem dL_law_130 : decode code 130 = .ok (.invokevirtual 34, 3) := by decide +kernel
theorem dL_law_133 : decode code 133 = .ok (.aload_n 2, 1) := by decide +kernel
theorem dL_law_134 : decode code 134 = .ok (.invokevirtual 38, 3) := by decide +kernel
theorem dL_law_137 : decode code 137 = .ok (.if_icmp .eq 416, 3) := by decide +kernel
theorem dL_law_140 : decode code 140 = .ok (.iconst 0, 1) := by decide +kernel
theorem dL_law_141 : decode code 141 = .ok (.ireturn, 1) := by decide +kernel
theorem dL_law_142 : decode code 142 = .ok (.aload_n 1, 1) := by decide +kernel
theorem dL_law_143 : decode code 143 = .ok (.aload_n 0, 1) := by decide +kernel
theorem dL_law_144 : decode code 144 = .ok (.iload 4, 2) := by decide +kernel
theorem dL_law_146 : decode code 146 = .ok (.iconst 1, 1) := by decide +kernel
theorem dL_law_147 : decode code 147 = .ok (.iadd, 1) := by decide +kernel
theorem dL_law_148 : decode code 148 = .ok (.iaload, 1) := by decide +kernel
theorem dL_law_149 : decode code 149 = .ok (.aload_n 0, 1) := by decide +kernel
theorem dL_law_150 : decode code 150 = .ok (.iload 4, 2) := by decide +kernel
theorem dL_law_152 : decode code 152 = .ok (.iconst 2, 1) := by decide +kernel
theorem dL_law_153 : decode code 153 = .ok (.iadd, 1) := by decide +kernel
theorem dL_law_154 : decode code 154 = .ok (.iaload, 1) := by decide +kernel
theorem dL_law_155 : decode code 155 = .ok (.aload_n 3, 1) := by decide +kernel
theorem dL_law_156 : decode code 156 = .ok (.invokestatic 39, 3) := by decide +kernel
theorem dL_law_159 : decode code 159 = .ok (.istore 5, 2) := by decide +kernel
theorem dL_law_161 : decode code 161 = .ok (.aload_n 2, 1) := by decide +kernel
theorem dL_law_162 : decode code 162 = .ok (.aload_n 0, 1) := by decide +kernel
theorem dL_law_163 : decode code 163 = .ok (.iload 4, 2) := by decide +kernel
theorem dL_law_165 : decode code 165 = .ok (.iconst 1, 1) := by decide +kernel
theorem dL_law_166 : decode code 166 = .ok (.iadd, 1) := by decide +kernel
theorem dL_law_167 : decode code 167 = .ok (.iaload, 1) := by decide +kernel
theorem dL_law_168 : decode code 168 = .ok (.aload_n 0, 1) := by decide +kernel
theorem dL_law_169 : decode code 169 = .ok (.iload 4, 2) := by decide +kernel
theorem dL_law_171 : decode code 171 = .ok (.iconst 2, 1) := by decide +kernel
theorem dL_law_172 : decode code 172 = .ok (.iadd, 1) := by decide +kernel
theorem dL_law_173 : decode code 173 = .ok (.iaload, 1) := by decide +kernel
theorem dL_law_174 : decode code 174 = .ok (.invokevirtual 44, 3) := by decide +kernel
theorem dL_law_177 : decode code 177 = .ok (.istore 6, 2) := by decide +kernel
theorem dL_law_179 : decode code 179 = .ok (.aload_n 2, 1) := by decide +kernel
theorem dL_law_180 : decode code 180 = .ok (.invokevirtual 45, 3) := by decide +kernel
theorem dL_law_183 : decode code 183 = .ok (.iload 5, 2) := by decide +kernel
theorem dL_law_185 : decode code 185 = .ok (.if_icmp .eq 5, 3) := by decide +kernel
theorem dL_law_188 : decode code 188 = .ok (.iconst 0, 1) := by decide +kernel
theorem dL_law_189 : decode code 189 = .ok (.ireturn, 1) := by decide +kernel
theorem dL_law_190 : decode code 190 = .ok (.iload 5, 2) := by decide +kernel
theorem dL_law_192 : decode code 192 = .ok (.ifCond .ne 15, 3) := by decide +kernel
theorem dL_law_195 : decode code 195 = .ok (.aload_n 3, 1) := by decide +kernel
theorem dL_law_196 : decode code 196 = .ok (.iconst 0, 1) := by decide +kernel
theorem dL_law_197 : decode code 197 = .ok (.laload, 1) := by decide +kernel
theorem dL_law_198 : decode code 198 = .ok (.iload 6, 2) := by decide +kernel
theorem dL_law_200 : decode code 200 = .ok (.i2l, 1) := by decide +kernel
theorem dL_law_201 : decode code 201 = .ok (.lcmp, 1) := by decide +kernel
theorem dL_law_202 : decode code 202 = .ok (.ifCond .eq 5, 3) := by decide +kernel
theorem dL_law_205 : decode code 205 = .ok (.iconst 0, 1) := by decide +kernel
theorem dL_law_206 : decode code 206 = .ok (.ireturn, 1) := by decide +kernel
theorem dL_law_207 : decode code 207 = .ok (.goto 346, 3) := by decide +kernel
theorem dL_law_210 : decode code 210 = .ok (.aload_n 1, 1) := by decide +kernel
theorem dL_law_211 : decode code 211 = .ok (.aload_n 0, 1) := by decide +kernel
theorem dL_law_212 : decode code 212 = .ok (.iload 4, 2) := by decide +kernel
theorem dL_law_214 : decode code 214 = .ok (.iconst 1, 1) := by decide +kernel
theorem dL_law_215 : decode code 215 = .ok (.iadd, 1) := by decide +kernel
theorem dL_law_216 : decode code 216 = .ok (.iaload, 1) := by decide +kernel
theorem dL_law_217 : decode code 217 = .ok (.aload_n 0, 1) := by decide +kernel
theorem dL_law_218 : decode code 218 = .ok (.iload 4, 2) := by decide +kernel
theorem dL_law_220 : decode code 220 = .ok (.iconst 2, 1) := by decide +kernel
theorem dL_law_221 : decode code 221 = .ok (.iadd, 1) := by decide +kernel
theorem dL_law_222 : decode code 222 = .ok (.iaload, 1) := by decide +kernel
theorem dL_law_223 : decode code 223 = .ok (.aload_n 0, 1) := by decide +kernel
theorem dL_law_224 : decode code 224 = .ok (.iload 4, 2) := by decide +kernel
theorem dL_law_226 : decode code 226 = .ok (.iconst 3, 1) := by decide +kernel
theorem dL_law_227 : decode code 227 = .ok (.iadd, 1) := by decide +kernel
theorem dL_law_228 : decode code 228 = .ok (.iaload, 1) := by decide +kernel
theorem dL_law_229 : decode code 229 = .ok (.aload_n 3, 1) := by decide +kernel
theorem dL_law_230 : decode code 230 = .ok (.invokestatic 48, 3) := by decide +kernel
theorem dL_law_233 : decode code 233 = .ok (.istore 5, 2) := by decide +kernel
theorem dL_law_235 : decode code 235 = .ok (.aload_n 2, 1) := by decide +kernel
theorem dL_law_236 : decode code 236 = .ok (.aload_n 0, 1) := by decide +kernel
theorem dL_law_237 : decode code 237 = .ok (.iload 4, 2) := by decide +kernel
theorem dL_law_239 : decode code 239 = .ok (.iconst 1, 1) := by decide +kernel
theorem dL_law_240 : decode code 240 = .ok (.iadd, 1) := by decide +kernel
theorem dL_law_241 : decode code 241 = .ok (.iaload, 1) := by decide +kernel
theorem dL_law_242 : decode code 242 = .ok (.aload_n 0, 1) := by decide +kernel
theorem dL_law_243 : decode code 243 = .ok (.iload 4, 2) := by decide +kernel
theorem dL_law_245 : decode code 245 = .ok (.iconst 2, 1) := by decide +kernel
theorem dL_law_246 : decode code 246 = .ok (.iadd, 1) := by decide +kernel
theorem dL_law_247 : decode code 247 = .ok (.iaload, 1) := by decide +kernel
theorem dL_law_248 : decode code 248 = .ok (.aload_n 0, 1) := by decide +kernel
theorem dL_law_249 : decode code 249 = .ok (.iload 4, 2) := by decide +kernel
theorem dL_law_251 : decode code 251 = .ok (.iconst 3, 1) := by decide +kernel
theorem dL_law_252 : decode code 252 = .ok (.iadd, 1) := by decide +kernel
theorem dL_law_253 : decode code 253 = .ok (.iaload, 1) := by decide +kernel
theorem dL_law_254 : decode code 254 = .ok (.invokevirtual 51, 3) := by decide +kernel
theorem dL_law_257 : decode code 257 = .ok (.istore 6, 2) := by decide +kernel
theorem dL_law_259 : decode code 259 = .ok (.aload_n 2, 1) := by decide +kernel
theorem dL_law_260 : decode code 260 = .ok (.invokevirtual 45, 3) := by decide +kernel
theorem dL_law_263 : decode code 263 = .ok (.iload 5, 2) := by decide +kernel
theorem dL_law_265 : decode code 265 = .ok (.if_icmp .eq 5, 3) := by decide +kernel
theorem dL_law_268 : decode code 268 = .ok (.iconst 0, 1) := by decide +kernel
theorem dL_law_269 : decode code 269 = .ok (.ireturn, 1) := by decide +kernel
theorem dL_law_270 : decode code 270 = .ok (.iload 5, 2) := by decide +kernel
theorem dL_law_272 : decode code 272 = .ok (.ifCond .ne 15, 3) := by decide +kernel
theorem dL_law_275 : decode code 275 = .ok (.aload_n 3, 1) := by decide +kernel
theorem dL_law_276 : decode code 276 = .ok (.iconst 0, 1) := by decide +kernel
theorem dL_law_277 : decode code 277 = .ok (.laload, 1) := by decide +kernel
theorem dL_law_278 : decode code 278 = .ok (.iload 6, 2) := by decide +kernel
theorem dL_law_280 : decode code 280 = .ok (.i2l, 1) := by decide +kernel
theorem dL_law_281 : decode code 281 = .ok (.lcmp, 1) := by decide +kernel
theorem dL_law_282 : decode code 282 = .ok (.ifCond .eq 5, 3) := by decide +kernel
theorem dL_law_285 : decode code 285 = .ok (.iconst 0, 1) := by decide +kernel
theorem dL_law_286 : decode code 286 = .ok (.ireturn, 1) := by decide +kernel
theorem dL_law_287 : decode code 287 = .ok (.goto 266, 3) := by decide +kernel
theorem dL_law_290 : decode code 290 = .ok (.aload_n 1, 1) := by decide +kernel
theorem dL_law_291 : decode code 291 = .ok (.aload_n 0, 1) := by decide +kernel
theorem dL_law_292 : decode code 292 = .ok (.iload 4, 2) := by decide +kernel
theorem dL_law_294 : decode code 294 = .ok (.iconst 1, 1) := by decide +kernel
theorem dL_law_295 : decode code 295 = .ok (.iadd, 1) := by decide +kernel
theorem dL_law_296 : decode code 296 = .ok (.iaload, 1) := by decide +kernel
theorem dL_law_297 : decode code 297 = .ok (.aload_n 0, 1) := by decide +kernel
theorem dL_law_298 : decode code 298 = .ok (.iload 4, 2) := by decide +kernel
theorem dL_law_300 : decode code 300 = .ok (.iconst 2, 1) := by decide +kernel
theorem dL_law_301 : decode code 301 = .ok (.iadd, 1) := by decide +kernel
theorem dL_law_302 : decode code 302 = .ok (.iaload, 1) := by decide +kernel
theorem dL_law_303 : decode code 303 = .ok (.aload_n 3, 1) := by decide +kernel
theorem dL_law_304 : decode code 304 = .ok (.invokestatic 52, 3) := by decide +kernel
theorem dL_law_307 : decode code 307 = .ok (.istore 5, 2) := by decide +kernel
theorem dL_law_309 : decode code 309 = .ok (.aload_n 2, 1) := by decide +kernel
theorem dL_law_310 : decode code 310 = .ok (.aload_n 0, 1) := by decide +kernel
theorem dL_law_311 : decode code 311 = .ok (.iload 4, 2) := by decide +kernel
theorem dL_law_313 : decode code 313 = .ok (.iconst 1, 1) := by decide +kernel
theorem dL_law_314 : decode code 314 = .ok (.iadd, 1) := by decide +kernel
theorem dL_law_315 : decode code 315 = .ok (.iaload, 1) := by decide +kernel
theorem dL_law_316 : decode code 316 = .ok (.aload_n 0, 1) := by decide +kernel
theorem dL_law_317 : decode code 317 = .ok (.iload 4, 2) := by decide +kernel
theorem dL_law_319 : decode code 319 = .ok (.iconst 2, 1) := by decide +kernel
theorem dL_law_320 : decode code 320 = .ok (.iadd, 1) := by decide +kernel
theorem dL_law_321 : decode code 321 = .ok (.iaload, 1) := by decide +kernel
theorem dL_law_322 : decode code 322 = .ok (.invokevirtual 54, 3) := by decide +kernel
theorem dL_law_325 : decode code 325 = .ok (.istore 6, 2) := by decide +kernel
theorem dL_law_327 : decode code 327 = .ok (.aload_n 2, 1) := by decide +kernel
theorem dL_law_328 : decode code 328 = .ok (.invokevirtual 45, 3) := by decide +kernel
theorem dL_law_331 : decode code 331 = .ok (.iload 5, 2) := by decide +kernel
theorem dL_law_333 : decode code 333 = .ok (.if_icmp .eq 5, 3) := by decide +kernel
theorem dL_law_336 : decode code 336 = .ok (.iconst 0, 1) := by decide +kernel
theorem dL_law_337 : decode code 337 = .ok (.ireturn, 1) := by decide +kernel
theorem dL_law_338 : decode code 338 = .ok (.iload 5, 2) := by decide +kernel
theorem dL_law_340 : decode code 340 = .ok (.ifCond .ne 22, 3) := by decide +kernel
theorem dL_law_343 : decode code 343 = .ok (.aload_n 3, 1) := by decide +kernel
theorem dL_law_344 : decode code 344 = .ok (.iconst 0, 1) := by decide +kernel
theorem dL_law_345 : decode code 345 = .ok (.laload, 1) := by decide +kernel
theorem dL_law_346 : decode code 346 = .ok (.iload 6, 2) := by decide +kernel
theorem dL_law_348 : decode code 348 = .ok (.ifCond .eq 7, 3) := by decide +kernel
theorem dL_law_351 : decode code 351 = .ok (.lconst 1, 1) := by decide +kernel
theorem dL_law_352 : decode code 352 = .ok (.goto 4, 3) := by decide +kernel
theorem dL_law_355 : decode code 355 = .ok (.lconst 0, 1) := by decide +kernel
theorem dL_law_356 : decode code 356 = .ok (.lcmp, 1) := by decide +kernel
theorem dL_law_357 : decode code 357 = .ok (.ifCond .eq 5, 3) := by decide +kernel
theorem dL_law_360 : decode code 360 = .ok (.iconst 0, 1) := by decide +kernel
theorem dL_law_361 : decode code 361 = .ok (.ireturn, 1) := by decide +kernel
theorem dL_law_362 : decode code 362 = .ok (.goto 191, 3) := by decide +kernel
theorem dL_law_365 : decode code 365 = .ok (.aload_n 1, 1) := by decide +kernel
theorem dL_law_366 : decode code 366 = .ok (.invokevirtual 55, 3) := by decide +kernel
theorem dL_law_369 : decode code 369 = .ok (.aload_n 2, 1) := by decide +kernel
theorem dL_law_370 : decode code 370 = .ok (.invokevirtual 58, 3) := by decide +kernel
theorem dL_law_373 : decode code 373 = .ok (.if_icmp .eq 180, 3) := by decide +kernel
theorem dL_law_376 : decode code 376 = .ok (.iconst 0, 1) := by decide +kernel
theorem dL_law_377 : decode code 377 = .ok (.ireturn, 1) := by decide +kernel
theorem dL_law_378 : decode code 378 = .ok (.aload_n 1, 1) := by decide +kernel
theorem dL_law_379 : decode code 379 = .ok (.aload_n 0, 1) := by decide +kernel
theorem dL_law_380 : decode code 380 = .ok (.iload 4, 2) := by decide +kernel
theorem dL_law_382 : decode code 382 = .ok (.iconst 1, 1) := by decide +kernel
theorem dL_law_383 : decode code 383 = .ok (.iadd, 1) := by decide +kernel
theorem dL_law_384 : decode code 384 = .ok (.iaload, 1) := by decide +kernel
theorem dL_law_385 : decode code 385 = .ok (.aload_n 0, 1) := by decide +kernel
theorem dL_law_386 : decode code 386 = .ok (.iload 4, 2) := by decide +kernel
theorem dL_law_388 : decode code 388 = .ok (.iconst 2, 1) := by decide +kernel
theorem dL_law_389 : decode code 389 = .ok (.iadd, 1) := by decide +kernel
theorem dL_law_390 : decode code 390 = .ok (.iaload, 1) := by decide +kernel
theorem dL_law_391 : decode code 391 = .ok (.invokevirtual 59, 3) := by decide +kernel
theorem dL_law_394 : decode code 394 = .ok (.aload_n 2, 1) := by decide +kernel
theorem dL_law_395 : decode code 395 = .ok (.aload_n 0, 1) := by decide +kernel
theorem dL_law_396 : decode code 396 = .ok (.iload 4, 2) := by decide +kernel
theorem dL_law_398 : decode code 398 = .ok (.iconst 1, 1) := by decide +kernel
theorem dL_law_399 : decode code 399 = .ok (.iadd, 1) := by decide +kernel
theorem dL_law_400 : decode code 400 = .ok (.iaload, 1) := by decide +kernel
theorem dL_law_401 : decode code 401 = .ok (.aload_n 0, 1) := by decide +kernel
theorem dL_law_402 : decode code 402 = .ok (.iload 4, 2) := by decide +kernel
theorem dL_law_404 : decode code 404 = .ok (.iconst 2, 1) := by decide +kernel
theorem dL_law_405 : decode code 405 = .ok (.iadd, 1) := by decide +kernel
theorem dL_law_406 : decode code 406 = .ok (.iaload, 1) := by decide +kernel
theorem dL_law_407 : decode code 407 = .ok (.invokevirtual 62, 3) := by decide +kernel
theorem dL_law_410 : decode code 410 = .ok (.if_icmp .eq 143, 3) := by decide +kernel
theorem dL_law_413 : decode code 413 = .ok (.iconst 0, 1) := by decide +kernel
theorem dL_law_414 : decode code 414 = .ok (.ireturn, 1) := by decide +kernel
theorem dL_law_415 : decode code 415 = .ok (.aload_n 1, 1) := by decide +kernel
theorem dL_law_416 : decode code 416 = .ok (.aload_n 0, 1) := by decide +kernel
theorem dL_law_417 : decode code 417 = .ok (.iload 4, 2) := by decide +kernel
theorem dL_law_419 : decode code 419 = .ok (.iconst 1, 1) := by decide +kernel
theorem dL_law_420 : decode code 420 = .ok (.iadd, 1) := by decide +kernel
theorem dL_law_421 : decode code 421 = .ok (.iaload, 1) := by decide +kernel
theorem dL_law_422 : decode code 422 = .ok (.aload_n 0, 1) := by decide +kernel
theorem dL_law_423 : decode code 423 = .ok (.iload 4, 2) := by decide +kernel
theorem dL_law_425 : decode code 425 = .ok (.iconst 2, 1) := by decide +kernel
theorem dL_law_426 : decode code 426 = .ok (.iadd, 1) := by decide +kernel
theorem dL_law_427 : decode code 427 = .ok (.iaload, 1) := by decide +kernel
theorem dL_law_428 : decode code 428 = .ok (.invokevirtual 63, 3) := by decide +kernel
theorem dL_law_431 : decode code 431 = .ok (.aload_n 2, 1) := by decide +kernel
theorem dL_law_432 : decode code 432 = .ok (.aload_n 0, 1) := by decide +kernel
theorem dL_law_433 : decode code 433 = .ok (.iload 4, 2) := by decide +kernel
theorem dL_law_435 : decode code 435 = .ok (.iconst 1, 1) := by decide +kernel
theorem dL_law_436 : decode code 436 = .ok (.iadd, 1) := by decide +kernel
theorem dL_law_437 : decode code 437 = .ok (.iaload, 1) := by decide +kernel
theorem dL_law_438 : decode code 438 = .ok (.aload_n 0, 1) := by decide +kernel
theorem dL_law_439 : decode code 439 = .ok (.iload 4, 2) := by decide +kernel
theorem dL_law_441 : decode code 441 = .ok (.iconst 2, 1) := by decide +kernel
theorem dL_law_442 : decode code 442 = .ok (.iadd, 1) := by decide +kernel
theorem dL_law_443 : decode code 443 = .ok (.iaload, 1) := by decide +kernel
theorem dL_law_444 : decode code 444 = .ok (.invokevirtual 66, 3) := by decide +kernel
theorem dL_law_447 : decode code 447 = .ok (.if_icmp .eq 106, 3) := by decide +kernel
theorem dL_law_450 : decode code 450 = .ok (.iconst 0, 1) := by decide +kernel
theorem dL_law_451 : decode code 451 = .ok (.ireturn, 1) := by decide +kernel
theorem dL_law_452 : decode code 452 = .ok (.aload_n 1, 1) := by decide +kernel
theorem dL_law_453 : decode code 453 = .ok (.aload_n 0, 1) := by decide +kernel
theorem dL_law_454 : decode code 454 = .ok (.iload 4, 2) := by decide +kernel
theorem dL_law_456 : decode code 456 = .ok (.iconst 1, 1) := by decide +kernel
theorem dL_law_457 : decode code 457 = .ok (.iadd, 1) := by decide +kernel
theorem dL_law_458 : decode code 458 = .ok (.iaload, 1) := by decide +kernel
theorem dL_law_459 : decode code 459 = .ok (.invokevirtual 67, 3) := by decide +kernel
theorem dL_law_462 : decode code 462 = .ok (.aload_n 2, 1) := by decide +kernel
theorem dL_law_463 : decode code 463 = .ok (.aload_n 0, 1) := by decide +kernel
theorem dL_law_464 : decode code 464 = .ok (.iload 4, 2) := by decide +kernel
theorem dL_law_466 : decode code 466 = .ok (.iconst 1, 1) := by decide +kernel
theorem dL_law_467 : decode code 467 = .ok (.iadd, 1) := by decide +kernel
theorem dL_law_468 : decode code 468 = .ok (.iaload, 1) := by decide +kernel
theorem dL_law_469 : decode code 469 = .ok (.invokevirtual 71, 3) := by decide +kernel
theorem dL_law_472 : decode code 472 = .ok (.if_icmp .eq 81, 3) := by decide +kernel
theorem dL_law_475 : decode code 475 = .ok (.iconst 0, 1) := by decide +kernel
theorem dL_law_476 : decode code 476 = .ok (.ireturn, 1) := by decide +kernel
theorem dL_law_477 : decode code 477 = .ok (.aload_n 1, 1) := by decide +kernel
theorem dL_law_478 : decode code 478 = .ok (.aload_n 0, 1) := by decide +kernel
theorem dL_law_479 : decode code 479 = .ok (.iload 4, 2) := by decide +kernel
theorem dL_law_481 : decode code 481 = .ok (.iconst 1, 1) := by decide +kernel
theorem dL_law_482 : decode code 482 = .ok (.iadd, 1) := by decide +kernel
theorem dL_law_483 : decode code 483 = .ok (.iaload, 1) := by decide +kernel
theorem dL_law_484 : decode code 484 = .ok (.invokevirtual 72, 3) := by decide +kernel
theorem dL_law_487 : decode code 487 = .ok (.aload_n 2, 1) := by decide +kernel
theorem dL_law_488 : decode code 488 = .ok (.aload_n 0, 1) := by decide +kernel
theorem dL_law_489 : decode code 489 = .ok (.iload 4, 2) := by decide +kernel
theorem dL_law_491 : decode code 491 = .ok (.iconst 1, 1) := by decide +kernel
theorem dL_law_492 : decode code 492 = .ok (.iadd, 1) := by decide +kernel
theorem dL_law_493 : decode code 493 = .ok (.iaload, 1) := by decide +kernel
theorem dL_law_494 : decode code 494 = .ok (.invokevirtual 75, 3) := by decide +kernel
theorem dL_law_497 : decode code 497 = .ok (.if_icmp .eq 56, 3) := by decide +kernel
theorem dL_law_500 : decode code 500 = .ok (.iconst 0, 1) := by decide +kernel
theorem dL_law_501 : decode code 501 = .ok (.ireturn, 1) := by decide +kernel
theorem dL_law_502 : decode code 502 = .ok (.aload_n 1, 1) := by decide +kernel
theorem dL_law_503 : decode code 503 = .ok (.invokevirtual 76, 3) := by decide +kernel
theorem dL_law_506 : decode code 506 = .ok (.aload_n 2, 1) := by decide +kernel
theorem dL_law_507 : decode code 507 = .ok (.invokevirtual 79, 3) := by decide +kernel
theorem dL_law_510 : decode code 510 = .ok (.if_icmp .eq 43, 3) := by decide +kernel
theorem dL_law_513 : decode code 513 = .ok (.iconst 0, 1) := by decide +kernel
theorem dL_law_514 : decode code 514 = .ok (.ireturn, 1) := by decide +kernel
theorem dL_law_515 : decode code 515 = .ok (.aload_n 1, 1) := by decide +kernel
theorem dL_law_516 : decode code 516 = .ok (.invokevirtual 80, 3) := by decide +kernel
theorem dL_law_519 : decode code 519 = .ok (.aload_n 2, 1) := by decide +kernel
theorem dL_law_520 : decode code 520 = .ok (.invokevirtual 83, 3) := by decide +kernel
theorem dL_law_523 : decode code 523 = .ok (.if_icmp .eq 30, 3) := by decide +kernel
theorem dL_law_526 : decode code 526 = .ok (.iconst 0, 1) := by decide +kernel
theorem dL_law_527 : decode code 527 = .ok (.ireturn, 1) := by decide +kernel
theorem dL_law_528 : decode code 528 = .ok (.aload_n 1, 1) := by decide +kernel
theorem dL_law_529 : decode code 529 = .ok (.aload_n 0, 1) := by decide +kernel
theorem dL_law_530 : decode code 530 = .ok (.iload 4, 2) := by decide +kernel
theorem dL_law_532 : decode code 532 = .ok (.iconst 1, 1) := by decide +kernel
theorem dL_law_533 : decode code 533 = .ok (.iadd, 1) := by decide +kernel
theorem dL_law_534 : decode code 534 = .ok (.iaload, 1) := by decide +kernel
theorem dL_law_535 : decode code 535 = .ok (.invokevirtual 84, 3) := by decide +kernel
theorem dL_law_538 : decode code 538 = .ok (.aload_n 2, 1) := by decide +kernel
theorem dL_law_539 : decode code 539 = .ok (.aload_n 0, 1) := by decide +kernel
theorem dL_law_540 : decode code 540 = .ok (.iload 4, 2) := by decide +kernel
theorem dL_law_542 : decode code 542 = .ok (.iconst 1, 1) := by decide +kernel
theorem dL_law_543 : decode code 543 = .ok (.iadd, 1) := by decide +kernel
theorem dL_law_544 : decode code 544 = .ok (.iaload, 1) := by decide +kernel
theorem dL_law_545 : decode code 545 = .ok (.invokevirtual 87, 3) := by decide +kernel
theorem dL_law_548 : decode code 548 = .ok (.if_icmp .eq 5, 3) := by decide +kernel
theorem dL_law_551 : decode code 551 = .ok (.iconst 0, 1) := by decide +kernel
theorem dL_law_552 : decode code 552 = .ok (.ireturn, 1) := by decide +kernel
theorem dL_law_553 : decode code 553 = .ok (.iinc 4 4, 3) := by decide +kernel
theorem dL_law_556 : decode code 556 = .ok (.goto (-533), 3) := by decide +kernel
theorem dL_law_559 : decode code 559 = .ok (.iconst 1, 1) := by decide +kernel
theorem dL_law_560 : decode code 560 = .ok (.ireturn, 1) := by decide +kernel
end
section
/-! the class and the reference, step by step: RA holds between their states -/
def st5 (v : Int32) : Prop := v = 0 ∨ v = 1 ∨ v = 2 ∨ v = 3 ∨ v = 4
def RA (N : Nat) (S M : SX) : Prop :=
  (∀ p b, p < 4 → b < 16 → M.1 0 (16 * p + b) = if xHo S p b = true then S.1 0 (2 * p + b % 2) else 0) ∧
  (∀ p a, p < 4 → a < 32 → xHo S p (a / 2) = true → M.1 1 (32 * p + a) = S.1 2 (2 * (2 * p + a / 2 % 2) + a % 2)) ∧
  (∀ i, i < 8 → ∃ b, b < 16 ∧ S.1 1 i = nI b ∧ (¬ S.1 0 i = 0 → b % 2 = i % 2)) ∧
  (∀ i, i < 8 → st5 (S.1 0 i)) ∧
  (∀ a, a < 32 → M.1 2 a = S.1 3 a) ∧
  (∀ k, k < 5 → M.1 3 k = S.1 4 k) ∧
  (∃ n, n ≤ N ∧ S.2 1 = nI n ∧ ∀ k, k < 8 → S.1 5 k = if k < n then M.1 4 k else -1) ∧
  (M.2 0 = S.2 0 ∧ M.2 1 = S.2 1 ∧ M.2 2 = S.2 2 ∧ M.2 3 = S.2 3) ∧
  (S.2 0 = 0 ∨ S.2 0 = 1 ∨ S.2 0 = 2 ∨ S.2 0 = 3)
theorem xHo_t {S : SX} {p b : Nat} : xHo S p b = true ↔ (¬ S.1 0 (2 * p + b % 2) = 0 ∧ S.1 1 (2 * p + b % 2) = nI b) := by
  simp [xHo]
theorem xHo_c {S T : SX} {p b : Nat} (h0 : T.1 0 (2 * p + b % 2) = S.1 0 (2 * p + b % 2)) (h1 : T.1 1 (2 * p + b % 2) = S.1 1 (2 * p + b % 2)) : xHo T p b = xHo S p b := by
  unfold xHo
  rw [h0, h1]
theorem nI_ij {a b : Nat} (ha : a < 64) (hb : b < 64) (h : nI a = nI b) : a = b :=
  (nI_eq (Nat.lt_trans ha (by decide)) (Nat.lt_trans hb (by decide))).mp h
theorem upd_id {f : Nat → Int32} {i : Nat} {v : Int32} (h : f i = v) : upd f i v = f := by
  funext j
  by_cases e : j = i
  · rw [e, pk_us, h]
  · rw [pk_un e]
theorem ra_okB {N : Nat} {S M : SX} (h : RA N S M) : okB S := fun i hi => by
  obtain ⟨b, hb, e, -⟩ := h.2.2.1 i hi
  exact ⟨b, hb, e⟩
theorem ra_mono {N N' : Nat} {S M : SX} (h : RA N S M) (hN : N ≤ N') : RA N' S M := by
  obtain ⟨r1, r2, r3, r4, r5, r6, ⟨n, hn, r7⟩, r8, r9⟩ := h
  exact ⟨r1, r2, r3, r4, r5, r6, ⟨n, Nat.le_trans hn hN, r7⟩, r8, r9⟩
/-- a held line's state is set on both sides -/
theorem ra_set {N : Nat} {S M : SX} (h : RA N S M) {p b : Nat} (hp : p < 4) (hb : b < 16) (hh : xHo S p b = true) {v : Int32} (hv : st5 v) : RA N (zA S 0 (upd (S.1 0) (2 * p + b % 2) v)) (mSe M p b v) := by
  obtain ⟨r1, r2, r3, r4, r5, r6, r7, r8, r9⟩ := h
  obtain ⟨h0, h1⟩ := xHo_t.mp hh
  have g0 : (zA S 0 (upd (S.1 0) (2 * p + b % 2) v)).1 0 = upd (S.1 0) (2 * p + b % 2) v := rfl
  have g1 : (zA S 0 (upd (S.1 0) (2 * p + b % 2) v)).1 1 = S.1 1 := rfl
  have g2 : (mSe M p b v).1 0 = upd (M.1 0) (16 * p + b) v := rfl
  refine ⟨?_, ?_, ?_, ?_, r5, r6, r7, r8, r9⟩
  · intro q c hq hc
    rw [g2]
    by_cases e : 2 * q + c % 2 = 2 * p + b % 2
    · have eq : q = p := by omega
      subst eq
      by_cases ec : c = b
      · subst ec
        rw [pk_us]
        by_cases hv0 : v = 0
        · have hf : ¬ xHo (zA S 0 (upd (S.1 0) (2 * q + c % 2) v)) q c = true := fun hx => by
            have h2 := (xHo_t.mp hx).1
            rw [g0, pk_us] at h2
            exact h2 hv0
          rw [if_neg hf, hv0]
        · rw [if_pos (xHo_t.mpr ⟨by rw [g0, pk_us]; exact hv0, by rw [g1]; exact h1⟩), g0, pk_us]
      · have hne : ¬ S.1 1 (2 * q + c % 2) = nI c := fun hx => by
          rw [e, h1] at hx
          exact ec (nI_ij (by omega) (by omega) hx).symm
        rw [pk_un (by omega), r1 q c hq hc, if_neg (fun hx => hne (xHo_t.mp hx).2), if_neg (show ¬ xHo (zA S 0 (upd (S.1 0) (2 * q + b % 2) v)) q c = true from fun hx => hne (xHo_t.mp hx).2)]
    · rw [pk_un (by omega), r1 q c hq hc, xHo_c (S := S) (T := zA S 0 (upd (S.1 0) (2 * p + b % 2) v)) (by rw [g0, pk_un e]) (by rw [g1]), g0, pk_un e]
  · intro q a hq ha hx
    refine r2 q a hq ha ?_
    have h2 := xHo_t.mp hx
    rw [g0, g1] at h2
    by_cases e : 2 * q + a / 2 % 2 = 2 * p + b % 2
    · refine xHo_t.mpr ⟨?_, h2.2⟩
      rw [e]
      exact h0
    · rw [pk_un e] at h2
      exact xHo_t.mpr h2
  · intro i hi
    obtain ⟨c, hc, e1, e2⟩ := r3 i hi
    refine ⟨c, hc, e1, fun hx => ?_⟩
    by_cases e : i = 2 * p + b % 2
    · exact e2 (by rw [e]; exact h0)
    · rw [g0, pk_un e] at hx
      exact e2 hx
  · intro i hi
    rw [g0]
    by_cases e : i = 2 * p + b % 2
    · rw [e, pk_us]
      exact hv
    · rw [pk_un e]
      exact r4 i hi
theorem shF_at (f : Nat → Int32) : ∀ n j : Nat, shF n f j = if 1 ≤ j ∧ j ≤ n then f (j - 1) else f j := by
  intro n
  induction n generalizing f with
  | zero =>
    intro j
    rw [if_neg (by omega)]
    rfl
  | succ n ih =>
    intro j
    show shF n (upd f (n + 1) (f n)) j = _
    rw [ih]
    by_cases h1 : 1 ≤ j ∧ j ≤ n
    · rw [if_pos h1, if_pos (by omega), pk_un (by omega)]
    · rw [if_neg h1]
      by_cases h2 : j = n + 1
      · rw [h2, pk_us, if_pos (by omega)]
        rfl
      · rw [pk_un h2, if_neg (by omega)]
/-- a transaction on both sides -/
theorem ra_tr {N : Nat} {S M : SX} (h : RA N S M) {k p b : Nat} (hk : k < 5) : RA (N + 1) (xTr S k p b) (mTr M k p b) := by
  obtain ⟨r1, r2, r3, r4, r5, r6, ⟨n, hn, t1, t2⟩, ⟨s0, s1, s2, s3⟩, r9⟩ := h
  refine ⟨r1, r2, r3, r4, r5, ?_, ⟨n + 1, by omega, ?_, ?_⟩, ⟨s0, ?_, s2, s3⟩, r9⟩
  · intro j hj
    show upd (M.1 3) k (M.1 3 k + 1) j = upd (S.1 4) k (S.1 4 k + 1) j
    by_cases e : j = k
    · rw [e, pk_us, pk_us, r6 k hk]
    · rw [pk_un e, pk_un e, r6 j hj]
  · show S.2 1 + 1 = nI (n + 1)
    rw [t1, nI_1]
  · intro j hj
    show upd (shF 7 (S.1 5)) 0 (nI (64 * k + 16 * p + b)) j = if j < n + 1 then upd (shF 7 (M.1 4)) 0 (nI (64 * k + 16 * p + b)) j else -1
    by_cases e : j = 0
    · rw [e, pk_us, pk_us, if_pos (by omega)]
    · have hj7 : 1 ≤ j ∧ j ≤ 7 := by omega
      rw [pk_un e, pk_un e, shF_at, shF_at, if_pos hj7, if_pos hj7, t2 (j - 1) (by omega)]
      by_cases e2 : j < n + 1
      · rw [if_pos e2, if_pos (by omega)]
      · rw [if_neg e2, if_neg (by omega)]
  · show M.2 1 + 1 = S.2 1 + 1
    rw [s1]
/-- a held block goes to memory on both sides -/
theorem ra_cp {N : Nat} {S M : SX} (h : RA N S M) {p b : Nat} (hp : p < 4) (hb : b < 16) (hh : xHo S p b = true) : RA N (xCp S (2 * p + b % 2)) (mTm M p b) := by
  obtain ⟨r1, r2, r3, r4, r5, r6, r7, r8, r9⟩ := h
  obtain ⟨h0, h1⟩ := xHo_t.mp hh
  refine ⟨r1, r2, r3, r4, ?_, r6, r7, r8, r9⟩
  intro a ha
  show upd (upd (M.1 2) (2 * b) (M.1 1 (32 * p + 2 * b))) (2 * b + 1) (M.1 1 (32 * p + 2 * b + 1)) a = va_cpy (S.1 2) (S.1 3) (2 * (2 * p + b % 2)) (2 * (S.1 1 (2 * p + b % 2)).toNatClampNeg) 2 a
  rw [h1, nI_clamp (Nat.lt_trans hb (by decide))]
  have w : ∀ k, k < 2 → M.1 1 (32 * p + (2 * b + k)) = S.1 2 (2 * (2 * p + b % 2) + k) := fun k hk => by
    have e1 : (2 * b + k) / 2 = b := by omega
    have e2 : (2 * b + k) % 2 = k := by omega
    have h3 := r2 p (2 * b + k) hp (by omega) (by rw [e1]; exact hh)
    rw [e1, e2] at h3
    exact h3
  by_cases e : a = 2 * b + 1
  · subst e
    rw [pk_us, pk_cpy_in (by omega) (by omega)]
    have := w 1 (by omega)
    rw [show 2 * b + 1 - 2 * b = 1 by omega, ← this]
    rfl
  · rw [pk_un e]
    by_cases e2 : a = 2 * b
    · subst e2
      rw [pk_us, pk_cpy_in (by omega) (by omega)]
      have := w 0 (by omega)
      rw [show 2 * b - 2 * b = 0 by omega, ← this]
      rfl
    · rw [pk_un e2, pk_cpy_out (by omega), r5 a ha]
theorem di_eq {v : Int32} (h : st5 v) : xDi v = mDi v := by
  rcases h with rfl | rfl | rfl | rfl | rfl <;> decide
theorem st5_le {v : Int32} (h : st5 v) : v ≤ 0 ↔ v = 0 := by
  rcases h with rfl | rfl | rfl | rfl | rfl <;> decide
theorem ra_st {N : Nat} {S M : SX} (h : RA N S M) {p b : Nat} (hp : p < 4) (hb : b < 16) : st5 (M.1 0 (16 * p + b)) := by
  rw [h.1 p b hp hb]
  split
  · exact h.2.2.2.1 _ (by omega)
  · exact Or.inl rfl
theorem ra_held {N : Nat} {S M : SX} (h : RA N S M) {p b : Nat} (hp : p < 4) (hb : b < 16) : xHo S p b = true ↔ ¬ M.1 0 (16 * p + b) = 0 := by
  rw [h.1 p b hp hb]
  constructor
  · intro hx
    rw [if_pos hx]
    exact (xHo_t.mp hx).1
  · intro hx
    by_cases e : xHo S p b = true
    · exact e
    · rw [if_neg e] at hx
      exact absurd rfl hx
/-- a held line is emptied -/
theorem ra_em {N : Nat} {S M : SX} (h : RA N S M) {p b : Nat} (hp : p < 4) (hb : b < 16) (hh : xHo S p b = true) : RA (N + 1) (xEm S (2 * p + b % 2)) (mEm M p b) ∧ xDi (S.1 0 (2 * p + b % 2)) = mDi (M.1 0 (16 * p + b)) := by
  have h4 := h.2.2.2.1 (2 * p + b % 2) (by omega)
  have e1 : M.1 0 (16 * p + b) = S.1 0 (2 * p + b % 2) := by rw [h.1 p b hp hb, if_pos hh]
  have ed : xDi (S.1 0 (2 * p + b % 2)) = mDi (M.1 0 (16 * p + b)) := by rw [e1]; exact di_eq h4
  refine ⟨?_, ed⟩
  unfold xEm mEm xEmT mEmT
  rw [← ed]
  by_cases hd : xDi (S.1 0 (2 * p + b % 2)) = true
  · rw [if_pos hd, if_pos hd]
    have h1 := (xHo_t.mp hh).2
    rw [h1, nI_clamp (Nat.lt_trans hb (by decide)), show (2 * p + b % 2) / 2 = p by omega]
    exact ra_set (ra_cp (ra_tr h (by decide)) hp hb hh) hp hb hh (Or.inl rfl)
  · rw [if_neg hd, if_neg hd]
    exact ra_mono (ra_set h hp hb hh (Or.inl rfl)) (by omega)
theorem xEm_0 {S : SX} {i : Nat} (h : S.1 0 i = 0) : xEm S i = S := by
  unfold xEm xEmT
  rw [h, if_neg (by decide), upd_id h, zA_id]
theorem mEv_none {p : Nat} : ∀ (n c : Nat) (M : SX), (∀ j, j < n → M.1 0 (16 * p + (c + 2 * j)) = 0) → mEvF p n c M = M := by
  intro n
  induction n with
  | zero =>
    intro c M _
    rfl
  | succ n ih =>
    intro c M h
    show mEvF p n (c + 2) (mEv1 p c M) = M
    have e : mEv1 p c M = M := by
      unfold mEv1
      rw [if_pos]
      have := h 0 (by omega)
      rw [show 16 * p + (c + 2 * 0) = 16 * p + c by omega] at this
      rw [this]
      decide
    rw [e]
    refine ih (c + 2) M (fun j hj => ?_)
    have := h (j + 1) (by omega)
    rw [show c + 2 * (j + 1) = c + 2 + 2 * j by omega] at this
    exact this
theorem mEm_0 {M : SX} {p b c : Nat} (h : c ≠ b) : (mEm M p b).1 0 (16 * p + c) = M.1 0 (16 * p + c) := by
  unfold mEm
  show upd ((mEmT M p b).1 0) (16 * p + b) 0 (16 * p + c) = _
  rw [pk_un (by omega)]
  unfold mEmT
  split <;> rfl
theorem mEv_one {p b : Nat} : ∀ (n c j0 : Nat) (M : SX), j0 < n → b = c + 2 * j0 → ¬ M.1 0 (16 * p + b) ≤ 0 → (∀ j, j < n → j ≠ j0 → M.1 0 (16 * p + (c + 2 * j)) = 0) → mEvF p n c M = mEm M p b := by
  intro n
  induction n with
  | zero =>
    intro c j0 M hj
    exact absurd hj (Nat.not_lt_zero j0)
  | succ n ih =>
    intro c j0 M hj hb hh h
    show mEvF p n (c + 2) (mEv1 p c M) = _
    by_cases e0 : j0 = 0
    · subst e0
      obtain rfl : b = c := by omega
      have e : mEv1 p b M = mEm M p b := by
        unfold mEv1
        rw [if_neg hh]
      rw [e]
      refine mEv_none n (b + 2) _ (fun j hj => ?_)
      rw [mEm_0 (by omega)]
      have := h (j + 1) (by omega) (by omega)
      rw [show b + 2 * (j + 1) = b + 2 + 2 * j by omega] at this
      exact this
    · have e : mEv1 p c M = M := by
        unfold mEv1
        rw [if_pos]
        have := h 0 (by omega) (fun z => e0 z.symm)
        rw [show 16 * p + (c + 2 * 0) = 16 * p + c by omega] at this
        rw [this]
        decide
      rw [e]
      refine ih (c + 2) (j0 - 1) M (by omega) (by omega) hh (fun j hj hne => ?_)
      have := h (j + 1) (by omega) (by omega)
      rw [show c + 2 * (j + 1) = c + 2 + 2 * j by omega] at this
      exact this
/-- which block a line holds, in the reference's words -/
theorem ra_line {N : Nat} {S M : SX} (h : RA N S M) {p d : Nat} (hp : p < 4) (hd : d < 2) :
    (S.1 0 (2 * p + d) = 0 ∧ ∀ c, c < 16 → c % 2 = d → M.1 0 (16 * p + c) = 0) ∨
    (∃ b, b < 16 ∧ b % 2 = d ∧ xHo S p b = true ∧ ∀ c, c < 16 → c % 2 = d → c ≠ b → M.1 0 (16 * p + c) = 0) := by
  by_cases e : S.1 0 (2 * p + d) = 0
  · refine Or.inl ⟨e, fun c hc hcd => ?_⟩
    rw [h.1 p c hp hc, if_neg]
    intro hx
    have := (xHo_t.mp hx).1
    rw [hcd] at this
    exact this e
  · obtain ⟨b, hb, e1, e2⟩ := h.2.2.1 (2 * p + d) (by omega)
    have e3 := e2 e
    have e4 : b % 2 = d := by omega
    refine Or.inr ⟨b, hb, e4, xHo_t.mpr ⟨by rw [e4]; exact e, by rw [e4]; exact e1⟩, fun c hc hcd hne => ?_⟩
    rw [h.1 p c hp hc, if_neg]
    intro hx
    have := (xHo_t.mp hx).2
    rw [hcd, e1] at this
    exact hne (nI_ij (by omega) (by omega) this).symm
/-- a line is emptied, held or not -/
theorem ra_ev {N : Nat} {S M : SX} (h : RA N S M) {p d : Nat} (hp : p < 4) (hd : d < 2) : RA (N + 1) (xEm S (2 * p + d)) (mEvF p 8 d M) := by
  rcases ra_line h hp hd with ⟨e, hz⟩ | ⟨b, hb, e4, hh, hz⟩
  · rw [xEm_0 e, mEv_none 8 d M (fun j hj => hz _ (by omega) (by omega))]
    exact ra_mono h (by omega)
  · have hst := ra_st h hp hb
    rw [mEv_one (b := b) 8 d ((b - d) / 2) M (by omega) (by omega) (fun hx => (ra_held h hp hb).mp hh ((st5_le hst).mp hx)) (fun j hj hne => hz _ (by omega) (by omega) (by omega))]
    have := (ra_em h hp hb hh).1
    rw [e4] at this
    exact this
theorem mFl_none {p : Nat} : ∀ (n c t : Nat) (M : SX), (∀ j, j < n → M.1 0 (16 * p + (c + 2 * j)) = 0) → mFlB p n c (M, t) = (M, t) := by
  intro n
  induction n with
  | zero =>
    intro c t M _
    rfl
  | succ n ih =>
    intro c t M h
    show mFlB p n (c + 2) (mFl1 p c (M, t)) = _
    have e : mFl1 p c (M, t) = (M, t) := by
      unfold mFl1
      rw [if_pos]
      have := h 0 (by omega)
      rw [show 16 * p + (c + 2 * 0) = 16 * p + c by omega] at this
      show M.1 0 (16 * p + c) ≤ 0
      rw [this]
      decide
    rw [e]
    refine ih (c + 2) t M (fun j hj => ?_)
    have := h (j + 1) (by omega)
    rw [show c + 2 * (j + 1) = c + 2 + 2 * j by omega] at this
    exact this
theorem mFl_one {p b : Nat} : ∀ (n c j0 t : Nat) (M : SX), j0 < n → b = c + 2 * j0 → ¬ M.1 0 (16 * p + b) ≤ 0 → (∀ j, j < n → j ≠ j0 → M.1 0 (16 * p + (c + 2 * j)) = 0) → mFlB p n c (M, t) = (mEm M p b, if mDi (M.1 0 (16 * p + b)) = true then t + 1 else t) := by
  intro n
  induction n with
  | zero =>
    intro c j0 t M hj
    exact absurd hj (Nat.not_lt_zero j0)
  | succ n ih =>
    intro c j0 t M hj hb hh h
    show mFlB p n (c + 2) (mFl1 p c (M, t)) = _
    by_cases e0 : j0 = 0
    · subst e0
      obtain rfl : b = c := by omega
      have e : mFl1 p b (M, t) = (mEm M p b, if mDi (M.1 0 (16 * p + b)) = true then t + 1 else t) := by
        unfold mFl1
        rw [if_neg hh]
      rw [e]
      refine mFl_none n (b + 2) _ _ (fun j hj => ?_)
      rw [mEm_0 (by omega)]
      have := h (j + 1) (by omega) (by omega)
      rw [show b + 2 * (j + 1) = b + 2 + 2 * j by omega] at this
      exact this
    · have e : mFl1 p c (M, t) = (M, t) := by
        unfold mFl1
        rw [if_pos]
        have := h 0 (by omega) (fun z => e0 z.symm)
        rw [show 16 * p + (c + 2 * 0) = 16 * p + c by omega] at this
        show M.1 0 (16 * p + c) ≤ 0
        rw [this]
        decide
      rw [e]
      refine ih (c + 2) (j0 - 1) t M (by omega) (by omega) hh (fun j hj hne => ?_)
      have := h (j + 1) (by omega) (by omega)
      rw [show c + 2 * (j + 1) = c + 2 + 2 * j by omega] at this
      exact this
/-- flush, one line -/
theorem ra_fl {N : Nat} {S M : SX} (h : RA N S M) {p d : Nat} (hp : p < 4) (hd : d < 2) (t : Nat) :
    ∃ M', mFlB p 8 d (M, t) = (M', if xDi (S.1 0 (2 * p + d)) = true then t + 1 else t) ∧ RA (N + 1) (xEm S (2 * p + d)) M' ∧ M' = mEvF p 8 d M := by
  rcases ra_line h hp hd with ⟨e, hz⟩ | ⟨b, hb, e4, hh, hz⟩
  · refine ⟨M, ?_, ?_, ?_⟩
    · rw [mFl_none 8 d t M (fun j hj => hz _ (by omega) (by omega)), e, if_neg (by decide)]
    · rw [xEm_0 e]
      exact ra_mono h (by omega)
    · rw [mEv_none 8 d M (fun j hj => hz _ (by omega) (by omega))]
  · have hst := ra_st h hp hb
    have hnz : ¬ M.1 0 (16 * p + b) ≤ 0 := fun hx => (ra_held h hp hb).mp hh ((st5_le hst).mp hx)
    obtain ⟨g1, g2⟩ := ra_em h hp hb hh
    rw [e4] at g1 g2
    refine ⟨mEm M p b, ?_, g1, ?_⟩
    · rw [mFl_one (b := b) 8 d ((b - d) / 2) t M (by omega) (by omega) hnz (fun j hj hne => hz _ (by omega) (by omega) (by omega)), g2]
    · rw [mEv_one (b := b) 8 d ((b - d) / 2) M (by omega) (by omega) hnz (fun j hj hne => hz _ (by omega) (by omega) (by omega))]
end
section
/-! holders of one block: where the protocol has no owner, two holders are both shared -/
def Co (M : SX) : Prop := (M.2 0 = 0 ∨ M.2 0 = 1) → ∀ p q b, p < 4 → q < 4 → b < 16 → p ≠ q → ¬ M.1 0 (16 * p + b) = 0 → ¬ M.1 0 (16 * q + b) = 0 → M.1 0 (16 * p + b) = 1
def Sub (M M' : SX) : Prop := M'.2 0 = M.2 0 ∧ ∀ j, M'.1 0 j = 0 ∨ M'.1 0 j = M.1 0 j
theorem Sub.rf (M : SX) : Sub M M := ⟨rfl, fun _ => Or.inr rfl⟩
theorem Sub.tr {M M1 M2 : SX} (h1 : Sub M M1) (h2 : Sub M1 M2) : Sub M M2 := ⟨h2.1.trans h1.1, fun j => by
  rcases h2.2 j with h | h
  · exact Or.inl h
  · rcases h1.2 j with g | g
    · exact Or.inl (h.trans g)
    · exact Or.inr (h.trans g)⟩
theorem Sub.co {M M' : SX} (h : Sub M M') (hc : Co M) : Co M' := by
  intro hp p q b h1 h2 h3 hne n1 n2
  have e1 := (h.2 (16 * p + b)).resolve_left n1
  have e2 := (h.2 (16 * q + b)).resolve_left n2
  rw [e1] at n1 ⊢
  rw [e2] at n2
  rw [h.1] at hp
  exact hc hp p q b h1 h2 h3 hne n1 n2
theorem sub_mSe (M : SX) (p b : Nat) : Sub M (mSe M p b 0) := ⟨rfl, fun j => by
  show upd (M.1 0) (16 * p + b) 0 j = 0 ∨ _
  by_cases e : j = 16 * p + b
  · rw [e, pk_us]
    exact Or.inl rfl
  · rw [show (mSe M p b 0).1 0 j = upd (M.1 0) (16 * p + b) 0 j from rfl, pk_un e]
    exact Or.inr rfl⟩
theorem sub_mEm (M : SX) (p b : Nat) : Sub M (mEm M p b) := by
  unfold mEm
  refine Sub.tr ?_ (sub_mSe _ p b)
  unfold mEmT
  split
  · exact ⟨rfl, fun _ => Or.inr rfl⟩
  · exact Sub.rf M
theorem sub_ev (p : Nat) : ∀ (n c : Nat) (M : SX), Sub M (mEvF p n c M) := by
  intro n
  induction n with
  | zero => exact fun c M => Sub.rf M
  | succ n ih =>
    intro c M
    refine Sub.tr ?_ (ih (c + 2) (mEv1 p c M))
    unfold mEv1
    split
    · exact Sub.rf M
    · exact sub_mEm M p c
theorem ra_c {N : Nat} {S M : SX} (h : RA N S M) {k b : Nat} (hk : k < 4) (hb : b < 16) : (xHo S k b && xDi (S.1 0 (2 * k + b % 2))) = mDi (M.1 0 (16 * k + b)) := by
  rw [h.1 k b hk hb]
  by_cases e : xHo S k b = true
  · rw [if_pos e, e, Bool.true_and]
    exact di_eq (h.2.2.2.1 _ (by omega))
  · rw [if_neg e, Bool.eq_false_iff.mpr e, Bool.false_and]
    decide
/-- the first dirty holder is the same -/
theorem ra_dl {N : Nat} {S M : SX} (h : RA N S M) {b : Nat} (hb : b < 16) : ∀ n k : Nat, n + k ≤ 4 →
    (xDlF S b n k = -1 ∧ mDhF M b n k = -1 ∧ ∀ q, k ≤ q → q < k + n → mDi (M.1 0 (16 * q + b)) = false) ∨
    ∃ q, q < 4 ∧ xDlF S b n k = nI (2 * q + b % 2) ∧ mDhF M b n k = nI q ∧ xHo S q b = true ∧ mDi (M.1 0 (16 * q + b)) = true := by
  intro n
  induction n with
  | zero => exact fun k _ => Or.inl ⟨rfl, rfl, fun q h1 h2 => absurd h2 (by omega)⟩
  | succ n ih =>
    intro k hk
    have hc := ra_c h (show k < 4 by omega) hb
    unfold xDlF mDhF
    by_cases e : mDi (M.1 0 (16 * k + b)) = true
    · rw [hc, if_pos e, if_pos e]
      refine Or.inr ⟨k, by omega, rfl, rfl, ?_, e⟩
      rw [e] at hc
      exact (Bool.and_eq_true _ _ ▸ hc).1
    · rw [hc, if_neg e, if_neg e]
      rcases ih (k + 1) (by omega) with ⟨g1, g2, g3⟩ | g
      · refine Or.inl ⟨g1, g2, fun q h1 h2 => ?_⟩
        by_cases e2 : q = k
        · rw [e2]
          exact Bool.eq_false_iff.mpr e
        · exact g3 q (by omega) (by omega)
      · exact Or.inr g
/-- words of an empty line may change -/
theorem ra_fe0 {N : Nat} {S M : SX} (h : RA N S M) {p b : Nat} (hp : p < 4) (hb : b < 16) (he : S.1 0 (2 * p + b % 2) = 0) {g g' : Nat → Int32}
    (hg : ∀ j, ¬ (2 * (2 * p + b % 2) ≤ j ∧ j < 2 * (2 * p + b % 2) + 2) → g j = S.1 2 j) (hg' : ∀ j, ¬ (32 * p + 2 * b ≤ j ∧ j < 32 * p + 2 * b + 2) → g' j = M.1 1 j) : RA N (zA S 2 g) (zA M 1 g') := by
  obtain ⟨r1, r2, r3, r4, r5, r6, r7, r8, r9⟩ := h
  refine ⟨r1, ?_, r3, r4, r5, r6, r7, r8, r9⟩
  intro q a hq ha hx
  have hx' : xHo S q (a / 2) = true := hx
  have h0 := (xHo_t.mp hx').1
  show g' (32 * q + a) = g (2 * (2 * q + a / 2 % 2) + a % 2)
  rw [hg' _ (fun hj => ?_), hg _ (fun hj => ?_)]
  · exact r2 q a hq ha hx'
  · rw [show 2 * q + a / 2 % 2 = 2 * p + b % 2 by omega] at h0
    exact h0 he
  · obtain rfl : q = p := by omega
    rw [show a / 2 = b by omega] at h0
    exact h0 he
/-- the words are fetched -/
theorem ra_fe {N : Nat} {S M : SX} (h : RA N S M) {p b : Nat} (hp : p < 4) (hb : b < 16) (he : S.1 0 (2 * p + b % 2) = 0) :
    RA N (xFe S (2 * p + b % 2) b) (mCw p b (mDhF M b 4 0) M) ∧ (∀ j, j < 2 → (mCw p b (mDhF M b 4 0) M).1 1 (32 * p + (2 * b + j)) = (xFe S (2 * p + b % 2) b).1 2 (2 * (2 * p + b % 2) + j)) ∧ (xFe S (2 * p + b % 2) b).1 0 = S.1 0 ∧ (mCw p b (mDhF M b 4 0) M).1 0 = M.1 0 ∧ (mCw p b (mDhF M b 4 0) M).2 = M.2 := by
  obtain ⟨-, r2, -, -, r5, -, -, -, -⟩ := id h
  have key : ∀ (v : Nat → Int32) (f : Int32) (gs : Nat → Int32), mCw p b f M = zA M 1 (upd (upd (M.1 1) (32 * p + (2 * b + 0)) (v 0)) (32 * p + (2 * b + 1)) (v 1)) → xFe S (2 * p + b % 2) b = zA S 2 gs →
      (∀ j, ¬ (2 * (2 * p + b % 2) ≤ j ∧ j < 2 * (2 * p + b % 2) + 2) → gs j = S.1 2 j) → (∀ j, j < 2 → gs (2 * (2 * p + b % 2) + j) = v j) →
      RA N (xFe S (2 * p + b % 2) b) (mCw p b f M) ∧ (∀ j, j < 2 → (mCw p b f M).1 1 (32 * p + (2 * b + j)) = (xFe S (2 * p + b % 2) b).1 2 (2 * (2 * p + b % 2) + j)) ∧ (xFe S (2 * p + b % 2) b).1 0 = S.1 0 ∧ (mCw p b f M).1 0 = M.1 0 ∧ (mCw p b f M).2 = M.2 := by
    intro v f gs e1 e2 h1 h2
    rw [e1, e2]
    refine ⟨ra_fe0 h hp hb he h1 (fun j hj => by rw [pk_un (by omega), pk_un (by omega)]), fun j hj => ?_, rfl, rfl, rfl⟩
    show upd (upd (M.1 1) (32 * p + (2 * b + 0)) (v 0)) (32 * p + (2 * b + 1)) (v 1) (32 * p + (2 * b + j)) = gs (2 * (2 * p + b % 2) + j)
    rw [h2 j hj]
    by_cases e : j = 1
    · rw [e, pk_us]
    · obtain rfl : j = 0 := by omega
      rw [pk_un (by omega), pk_us]
  rcases ra_dl h hb 4 0 (by omega) with ⟨g1, g2, -⟩ | ⟨q, hq, g1, g2, g3, -⟩
  · have d1 : xDl S b = -1 := g1
    refine key (fun j => M.1 2 (2 * b + j)) _ (va_cpy (S.1 3) (S.1 2) (2 * b) (2 * (2 * p + b % 2)) 2) ?_ ?_ (fun j hj => pk_cpy_out (by omega)) (fun j hj => ?_)
    · rw [g2]
      unfold mCw mCw1
      rw [if_pos (by decide), if_pos (by decide), zA_zA, zA_s]
      rfl
    · unfold xFe
      rw [if_pos d1]
    · rw [pk_cpy_in (by omega) (by omega), show 2 * (2 * p + b % 2) + j - 2 * (2 * p + b % 2) = j by omega]
      exact (r5 _ (by omega)).symm
  · have d1 : xDl S b = nI (2 * q + b % 2) := g1
    have hn : ¬ nI (2 * q + b % 2) = -1 := fun hx => by
      have h7 := nI_pos (n := 2 * q + b % 2) (by omega)
      rw [hx] at h7
      exact h7 (by decide)
    refine key (fun j => M.1 1 (32 * q + (2 * b + j))) _ (va_cpy (S.1 2) (S.1 2) (2 * (2 * q + b % 2)) (2 * (2 * p + b % 2)) 2) ?_ ?_ (fun j hj => pk_cpy_out (by omega)) (fun j hj => ?_)
    · rw [g2]
      unfold mCw mCw1
      rw [if_neg (nI_pos (by omega)), if_neg (nI_pos (by omega)), nI_clamp (by omega), zA_zA, zA_s, pk_un (by omega)]
    · unfold xFe
      rw [if_neg (by rw [d1]; exact hn), d1, nI_clamp (by omega)]
    · rw [pk_cpy_in (by omega) (by omega), show 2 * (2 * p + b % 2) + j - 2 * (2 * p + b % 2) = j by omega]
      have h8 := r2 q (2 * b + j) hq (by omega) (by rw [show (2 * b + j) / 2 = b by omega]; exact g3)
      rw [show (2 * b + j) / 2 = b by omega, show (2 * b + j) % 2 = j by omega] at h8
      exact h8.symm
theorem mSe_0 {M : SX} {p b : Nat} {v : Int32} (h : M.1 0 (16 * p + b) = v) : mSe M p b v = M := by
  unfold mSe
  rw [upd_id h, zA_id]
/-- the other holders are emptied -/
theorem ra_dr {N p b : Nat} (hb : b < 16) : ∀ (n k : Nat) (S M : SX), n + k ≤ 4 → RA N S M →
    RA N (xDrF p b n k S) (mEoF p b n k M) ∧ (xDrF p b n k S).1 2 = S.1 2 ∧ (xDrF p b n k S).1 1 = S.1 1 ∧ (mEoF p b n k M).1 1 = M.1 1 ∧ (xDrF p b n k S).1 0 (2 * p + b % 2) = S.1 0 (2 * p + b % 2) ∧ (xDrF p b n k S).2 = S.2 ∧ (mEoF p b n k M).2 = M.2 ∧
    (∀ q, k ≤ q → q < k + n → q ≠ p → (mEoF p b n k M).1 0 (16 * q + b) = 0) ∧ Sub M (mEoF p b n k M) ∧ (mEoF p b n k M).1 0 (16 * p + b) = M.1 0 (16 * p + b) := by
  intro n
  induction n with
  | zero => exact fun k S M _ h => ⟨h, rfl, rfl, rfl, rfl, rfl, rfl, fun q h1 h2 => absurd h2 (by omega), Sub.rf M, rfl⟩
  | succ n ih =>
    intro k S M hk h
    show RA N (xDrF p b n (k + 1) (xDr1 p b k S)) (mEoF p b n (k + 1) (if k = p then M else mSe M k b 0)) ∧ (xDrF p b n (k + 1) (xDr1 p b k S)).1 2 = S.1 2 ∧ (xDrF p b n (k + 1) (xDr1 p b k S)).1 1 = S.1 1 ∧ (mEoF p b n (k + 1) (if k = p then M else mSe M k b 0)).1 1 = M.1 1 ∧ (xDrF p b n (k + 1) (xDr1 p b k S)).1 0 (2 * p + b % 2) = S.1 0 (2 * p + b % 2) ∧ (xDrF p b n (k + 1) (xDr1 p b k S)).2 = S.2 ∧ (mEoF p b n (k + 1) (if k = p then M else mSe M k b 0)).2 = M.2 ∧
      (∀ q, k ≤ q → q < k + (n + 1) → q ≠ p → (mEoF p b n (k + 1) (if k = p then M else mSe M k b 0)).1 0 (16 * q + b) = 0) ∧ Sub M (mEoF p b n (k + 1) (if k = p then M else mSe M k b 0)) ∧ (mEoF p b n (k + 1) (if k = p then M else mSe M k b 0)).1 0 (16 * p + b) = M.1 0 (16 * p + b)
    by_cases e : k = p
    · have e1 : xDr1 p b k S = S := by simp [xDr1, e]
      rw [e1, if_pos e]
      obtain ⟨a1, a2, a2', a3, a4, a5, a6, a7, a8, a9⟩ := ih (k + 1) S M (by omega) h
      exact ⟨a1, a2, a2', a3, a4, a5, a6, fun q h1 h2 h3 => a7 q (by omega) (by omega) h3, a8, a9⟩
    · rw [if_neg e]
      by_cases hh : xHo S k b = true
      · have e1 : xDr1 p b k S = zA S 0 (upd (S.1 0) (2 * k + b % 2) 0) := by simp [xDr1, e, hh]
        rw [e1]
        obtain ⟨a1, a2, a2', a3, a4, a5, a6, a7, a8, a9⟩ := ih (k + 1) (zA S 0 (upd (S.1 0) (2 * k + b % 2) 0)) (mSe M k b 0) (by omega) (ra_set h (by omega) hb hh (Or.inl rfl))
        refine ⟨a1, a2, a2', a3, a4.trans ?_, a5, a6, fun q h1 h2 h3 => ?_, Sub.tr (sub_mSe M k b) a8, a9.trans ?_⟩
        · show upd (S.1 0) (2 * k + b % 2) 0 (2 * p + b % 2) = _
          rw [pk_un (by omega)]
        · by_cases e2 : q = k
          · rcases a8.2 (16 * q + b) with g | g
            · exact g
            · rw [g, e2]
              show upd (M.1 0) (16 * k + b) 0 (16 * k + b) = 0
              rw [pk_us]
          · exact a7 q (by omega) (by omega) h3
        · show upd (M.1 0) (16 * k + b) 0 (16 * p + b) = _
          rw [pk_un (by omega)]
      · have e1 : xDr1 p b k S = S := by simp [xDr1, e, Bool.eq_false_iff.mpr hh]
        have hz : M.1 0 (16 * k + b) = 0 := by rw [h.1 k b (by omega) hb, if_neg hh]
        rw [e1, mSe_0 hz]
        obtain ⟨a1, a2, a2', a3, a4, a5, a6, a7, a8, a9⟩ := ih (k + 1) S M (by omega) h
        refine ⟨a1, a2, a2', a3, a4, a5, a6, fun q h1 h2 h3 => ?_, a8, a9⟩
        by_cases e2 : q = k
        · rcases a8.2 (16 * q + b) with g | g
          · exact g
          · rw [g, e2, hz]
        · exact a7 q (by omega) (by omega) h3
/-- the line is filled -/
theorem ra_fin {N : Nat} {S M : SX} (h : RA N S M) {p b : Nat} (hp : p < 4) (hb : b < 16) (he : S.1 0 (2 * p + b % 2) = 0) (hw : ∀ j, j < 2 → M.1 1 (32 * p + (2 * b + j)) = S.1 2 (2 * (2 * p + b % 2) + j)) {v : Int32} (hv : st5 v) (hv0 : ¬ v = 0) :
    RA N (xLoE (S, v) (2 * p + b % 2) b) (mSe M p b v) ∧ xHo (xLoE (S, v) (2 * p + b % 2) b) p b = true := by
  obtain ⟨r1, r2, r3, r4, r5, r6, r7, r8, r9⟩ := h
  have g0 : (xLoE (S, v) (2 * p + b % 2) b).1 0 = upd (S.1 0) (2 * p + b % 2) v := rfl
  have g1 : (xLoE (S, v) (2 * p + b % 2) b).1 1 = upd (S.1 1) (2 * p + b % 2) (nI b) := rfl
  have g2 : (xLoE (S, v) (2 * p + b % 2) b).1 2 = S.1 2 := rfl
  have gm : (mSe M p b v).1 0 = upd (M.1 0) (16 * p + b) v := rfl
  have gm1 : (mSe M p b v).1 1 = M.1 1 := rfl
  have hown : xHo (xLoE (S, v) (2 * p + b % 2) b) p b = true := xHo_t.mpr ⟨by rw [g0, pk_us]; exact hv0, by rw [g1, pk_us]⟩
  refine ⟨⟨?_, ?_, ?_, ?_, r5, r6, r7, r8, r9⟩, hown⟩
  · intro q c hq hc
    rw [gm]
    by_cases e : 2 * q + c % 2 = 2 * p + b % 2
    · obtain rfl : q = p := by omega
      by_cases ec : c = b
      · subst ec
        rw [pk_us, if_pos hown, g0, pk_us]
      · have hne : ¬ xHo (xLoE (S, v) (2 * q + b % 2) b) q c = true := fun hx => by
          have h2 := (xHo_t.mp hx).2
          rw [g1, e, pk_us] at h2
          exact ec (nI_ij (by omega) (by omega) h2).symm
        rw [pk_un (by omega), r1 q c hq hc, if_neg hne, if_neg]
        intro hx
        have h2 := (xHo_t.mp hx).1
        rw [e] at h2
        exact h2 he
    · rw [pk_un (by omega), r1 q c hq hc, xHo_c (S := S) (T := xLoE (S, v) (2 * p + b % 2) b) (by rw [g0, pk_un e]) (by rw [g1, pk_un e]), g0, pk_un e]
  · intro q a hq ha hx
    rw [gm1, g2]
    by_cases e : 2 * q + a / 2 % 2 = 2 * p + b % 2
    · obtain rfl : q = p := by omega
      have h2 := (xHo_t.mp hx).2
      rw [g1, e, pk_us] at h2
      have e3 : a / 2 = b := (nI_ij (by omega) (by omega) h2).symm
      have h5 := hw (a % 2) (by omega)
      rw [show 2 * b + a % 2 = a by omega] at h5
      rw [h5, e3]
    · refine r2 q a hq ha ?_
      rw [← hx]
      exact (xHo_c (S := S) (T := xLoE (S, v) (2 * p + b % 2) b) (by rw [g0, pk_un e]) (by rw [g1, pk_un e])).symm
  · intro i hi
    by_cases e : i = 2 * p + b % 2
    · exact ⟨b, hb, by rw [g1, e, pk_us], fun _ => by omega⟩
    · obtain ⟨c, hc, e1, e2⟩ := r3 i hi
      exact ⟨c, hc, by rw [g1, pk_un e]; exact e1, fun hx => e2 (by rw [g0, pk_un e] at hx; exact hx)⟩
  · intro i hi
    rw [g0]
    by_cases e : i = 2 * p + b % 2
    · rw [e, pk_us]
      exact hv
    · rw [pk_un e]
      exact r4 i hi
/-- a word of a held line -/
theorem ra_word {N : Nat} {S M : SX} (h : RA N S M) {p a : Nat} (hp : p < 4) (ha : a < 32) (hh : xHo S p (a / 2) = true) (w : Int32) :
    RA N (zA S 2 (upd (S.1 2) (2 * (2 * p + a / 2 % 2) + a % 2) w)) (zA M 1 (upd (M.1 1) (32 * p + a) w)) := by
  obtain ⟨r1, r2, r3, r4, r5, r6, r7, r8, r9⟩ := h
  refine ⟨r1, ?_, r3, r4, r5, r6, r7, r8, r9⟩
  intro q c hq hc hx
  have hx' : xHo S q (c / 2) = true := hx
  show upd (M.1 1) (32 * p + a) w (32 * q + c) = upd (S.1 2) (2 * (2 * p + a / 2 % 2) + a % 2) w (2 * (2 * q + c / 2 % 2) + c % 2)
  by_cases e : 32 * q + c = 32 * p + a
  · obtain rfl : q = p := by omega
    obtain rfl : c = a := by omega
    rw [pk_us, pk_us]
  · rw [pk_un e, pk_un (fun e2 => ?_)]
    · exact r2 q c hq hc hx'
    · have e3 : 2 * q + c / 2 % 2 = 2 * p + a / 2 % 2 := by omega
      have h1 := (xHo_t.mp hx').2
      have h2 := (xHo_t.mp hh).2
      rw [e3, h2] at h1
      have e4 := nI_ij (by omega) (by omega) h1
      omega
end
section
/-! the other holders at a READ -/
def hN (S : SX) (p b : Nat) : Nat → Nat → Bool
  | 0, _ => true
  | n + 1, k => (decide (k = p) || !xHo S k b) && hN S p b n (k + 1)
theorem hN_f {S : SX} {p b : Nat} : ∀ n k : Nat, hN S p b n k = true → ∀ q, k ≤ q → q < k + n → q ≠ p → xHo S q b = false := by
  intro n
  induction n with
  | zero => exact fun k _ q h1 h2 => absurd h2 (by omega)
  | succ n ih =>
    intro k h q h1 h2 h3
    have h' : ((decide (k = p) || !xHo S k b) && hN S p b n (k + 1)) = true := h
    rw [Bool.and_eq_true] at h'
    by_cases e : q = k
    · have h4 := h'.1
      rw [← e] at h4
      simpa [h3] using h4
    · exact ih (k + 1) h'.2 q (by omega) (by omega) h3
theorem sh_flag {p b : Nat} : ∀ (n k : Nat) (S : SX) (al : Bool), (xShF p b n k (S, al)).2 = (al && hN S p b n k) := by
  intro n
  induction n with
  | zero => exact fun k S al => (Bool.and_true al).symm
  | succ n ih =>
    intro k S al
    show (xShF p b n (k + 1) (xSh1 p b k (S, al))).2 = (al && ((decide (k = p) || !xHo S k b) && hN S p b n (k + 1)))
    by_cases e : k = p
    · rw [show xSh1 p b k (S, al) = (S, al) by simp [xSh1, e], ih]
      simp [e]
    · by_cases hh : xHo S k b = true
      · rw [show xSh1 p b k (S, al) = (xYi S (2 * k + b % 2), false) by simp [xSh1, e, hh], ih]
        simp [e, hh]
      · have hh' := Bool.eq_false_iff.mpr hh
        rw [show xSh1 p b k (S, al) = (S, al) by simp [xSh1, hh'], ih]
        simp [hh']
theorem ot_flag {N : Nat} {S M : SX} (h : RA N S M) {p b : Nat} (hb : b < 16) : ∀ n k c : Nat, n + k ≤ 4 → (mOtF M p b n k c = 0 ↔ (c = 0 ∧ hN S p b n k = true)) := by
  intro n
  induction n with
  | zero => exact fun k c _ => ⟨fun h => ⟨h, rfl⟩, fun h => h.1⟩
  | succ n ih =>
    intro k c hk
    show mOtF M p b n (k + 1) (if (!decide (k = p) && decide (¬ M.1 0 (16 * k + b) ≤ 0)) = true then c + 1 else c) = 0 ↔ (c = 0 ∧ ((decide (k = p) || !xHo S k b) && hN S p b n (k + 1)) = true)
    rw [ih (k + 1) _ (by omega)]
    have hs := ra_st h (show k < 4 by omega) hb
    have hh := ra_held h (show k < 4 by omega) hb
    by_cases e : k = p
    · simp [e]
    · by_cases hz : M.1 0 (16 * k + b) = 0
      · have h1 : xHo S k b = false := Bool.eq_false_iff.mpr (fun hx => hh.mp hx hz)
        have h2 : M.1 0 (16 * k + b) ≤ 0 := (st5_le hs).mpr hz
        simp [e, h1, h2]
      · have h1 : xHo S k b = true := hh.mpr hz
        have h2 : ¬ M.1 0 (16 * k + b) ≤ 0 := fun hx => hz ((st5_le hs).mp hx)
        simp [e, h1, h2]
theorem sh_none {p b : Nat} : ∀ (n k : Nat) (S : SX) (al : Bool), (∀ q, k ≤ q → q < k + n → q ≠ p → xHo S q b = false) → xShF p b n k (S, al) = (S, al) := by
  intro n
  induction n with
  | zero => exact fun k S al _ => rfl
  | succ n ih =>
    intro k S al h
    show xShF p b n (k + 1) (xSh1 p b k (S, al)) = (S, al)
    have e : xSh1 p b k (S, al) = (S, al) := by
      by_cases e : k = p
      · simp [xSh1, e]
      · simp [xSh1, h k (by omega) (by omega) e]
    rw [e]
    exact ih (k + 1) S al (fun q h1 h2 h3 => h q (by omega) (by omega) h3)
theorem xYi_ne {S : SX} {i j : Nat} (h : j ≠ i) : (xYi S i).1 0 j = S.1 0 j := by
  unfold xYi
  split
  · show upd (S.1 0) i 3 j = _
    rw [pk_un h]
  · split
    · show upd (S.1 0) i 1 j = _
      rw [pk_un h]
    · show upd (S.1 0) i 1 j = _
      rw [pk_un h]
theorem xYi_2 (S : SX) (i : Nat) : (xYi S i).1 2 = S.1 2 := by
  unfold xYi
  split
  · rfl
  · split <;> rfl
theorem xYi_s (S : SX) (i : Nat) : (xYi S i).2 = S.2 := by
  unfold xYi
  split
  · rfl
  · split <;> rfl
theorem sh_one {p b q : Nat} (hqp : q ≠ p) : ∀ (n k : Nat) (S : SX) (al : Bool), k ≤ q → q < k + n → xHo S q b = true → (∀ r, k ≤ r → r < k + n → r ≠ q → xHo S r b = false) → xShF p b n k (S, al) = (xYi S (2 * q + b % 2), false) := by
  intro n
  induction n with
  | zero => exact fun k S al h1 h2 => absurd h2 (by omega)
  | succ n ih =>
    intro k S al h1 h2 hh h
    show xShF p b n (k + 1) (xSh1 p b k (S, al)) = _
    by_cases e : k = q
    · subst e
      rw [show xSh1 p b k (S, al) = (xYi S (2 * k + b % 2), false) by simp [xSh1, hqp, hh]]
      refine sh_none n (k + 1) _ _ (fun r g1 g2 _ => ?_)
      rw [← h r (by omega) (by omega) (by omega)]
      exact xHo_c (xYi_ne (by omega)) (by rw [xYi_1])
    · rw [show xSh1 p b k (S, al) = (S, al) by
        have := h k (by omega) (by omega) e
        simp [xSh1, this]]
      exact ih (k + 1) S al (by omega) (by omega) hh (fun r g1 g2 g3 => h r (by omega) (by omega) g3)
theorem rl_none {p b : Nat} : ∀ (n k : Nat) (M : SX), (∀ q, k ≤ q → q < k + n → q ≠ p → M.1 0 (16 * q + b) = 0) → mRlF p b n k M = M := by
  intro n
  induction n with
  | zero => exact fun k M _ => rfl
  | succ n ih =>
    intro k M h
    show mRlF p b n (k + 1) (mRl1 p b k M) = M
    have e : mRl1 p b k M = M := by
      by_cases e : k = p
      · simp [mRl1, e]
      · simp [mRl1, h k (by omega) (by omega) e]
    rw [e]
    exact ih (k + 1) M (fun q h1 h2 h3 => h q (by omega) (by omega) h3)
theorem rl_one {p b q : Nat} (hb : b < 16) (hqp : q ≠ p) : ∀ (n k : Nat) (M : SX), ¬ 2 ≤ M.2 0 → k ≤ q → q < k + n → ¬ M.1 0 (16 * q + b) = 0 → (∀ r, k ≤ r → r < k + n → r ≠ q → M.1 0 (16 * r + b) = 0) → mRlF p b n k M = mSe M q b 1 := by
  intro n
  induction n with
  | zero => exact fun k M _ h1 h2 => absurd h2 (by omega)
  | succ n ih =>
    intro k M hpr h1 h2 hh h
    show mRlF p b n (k + 1) (mRl1 p b k M) = _
    by_cases e : k = q
    · subst e
      rw [show mRl1 p b k M = mSe M k b 1 by simp [mRl1, hqp, hh, hpr]]
      refine rl_none n (k + 1) _ (fun r g1 g2 _ => ?_)
      show upd (M.1 0) (16 * k + b) 1 (16 * r + b) = 0
      rw [pk_un (by omega)]
      exact h r (by omega) (by omega) (by omega)
    · rw [show mRl1 p b k M = M by
        have := h k (by omega) (by omega) e
        simp [mRl1, this]]
      exact ih (k + 1) M hpr (by omega) (by omega) hh (fun r g1 g2 g3 => h r (by omega) (by omega) g3)
theorem i32_3 : ¬ (0 : Int32) < 0 ∧ (0 : Int32) < 2 ∧ (1 : Int32) < 2 ∧ ¬ (2 : Int32) < 2 ∧ ¬ (3 : Int32) < 2 ∧ ¬ (2 : Int32) ≤ 0 ∧ ¬ (2 : Int32) ≤ 1 ∧ (2 : Int32) ≤ 2 ∧ (2 : Int32) ≤ 3 := by decide
/-- one other holder yields, where nothing goes to memory -/
theorem ra_y {N : Nat} {S M : SX} (h : RA N S M) {p k b : Nat} (hk : k < 4) (hb : b < 16) (hkp : k ≠ p) (hh : xHo S k b = true) (hd : ¬ S.2 0 < 2 ∨ mDi (M.1 0 (16 * k + b)) = false) :
    RA N (xYi S (2 * k + b % 2)) (mRl1 p b k M) ∧ ∃ v, st5 v ∧ ¬ v = 0 ∧ mRl1 p b k M = mSe M k b v ∧ (S.2 0 < 2 → v = 1) := by
  have e0 : M.1 0 (16 * k + b) = S.1 0 (2 * k + b % 2) := by rw [h.1 k b hk hb, if_pos hh]
  have h4 := h.2.2.2.1 (2 * k + b % 2) (by omega)
  have hnz := (xHo_t.mp hh).1
  have s0 := h.2.2.2.2.2.2.2.1.1
  obtain ⟨-, c1, c2, c3, c4, c5, c6, c7, c8⟩ := i32_3
  by_cases hpr : S.2 0 < 2
  · -- no owner: the state was 1 or 2
    have hm : ¬ 2 ≤ M.2 0 := by
      rw [s0]
      rcases h.2.2.2.2.2.2.2.2 with e | e | e | e <;> rw [e] at hpr ⊢ <;> first | assumption | exact absurd hpr (by assumption)
    have hnd : xDi (S.1 0 (2 * k + b % 2)) = false := by
      rw [di_eq h4, ← e0]
      exact hd.resolve_left (fun hx => hx hpr)
    have e1 : mRl1 p b k M = mSe M k b 1 := by
      unfold mRl1
      rw [if_neg hkp, if_neg (by rw [e0]; exact hnz), if_pos hm]
    have e2 : xYi S (2 * k + b % 2) = zA S 0 (upd (S.1 0) (2 * k + b % 2) 1) := by
      unfold xYi
      rw [hnd, if_neg (by simp), if_neg (by decide)]
    rw [e1, e2]
    exact ⟨ra_set h hk hb hh (Or.inr (Or.inl rfl)), 1, Or.inr (Or.inl rfl), by decide, rfl, fun _ => rfl⟩
  · have hm : 2 ≤ M.2 0 := by
      rw [s0]
      rcases h.2.2.2.2.2.2.2.2 with e | e | e | e <;> rw [e] at hpr ⊢ <;> first | assumption | exact absurd (by assumption) hpr
    have key : ∀ v : Int32, st5 v → ¬ v = 0 → mRl1 p b k M = mSe M k b v → xYi S (2 * k + b % 2) = zA S 0 (upd (S.1 0) (2 * k + b % 2) v) → RA N (xYi S (2 * k + b % 2)) (mRl1 p b k M) ∧ ∃ v, st5 v ∧ ¬ v = 0 ∧ mRl1 p b k M = mSe M k b v ∧ (S.2 0 < 2 → v = 1) := by
      intro v hv hv0 e1 e2
      rw [e2]
      exact ⟨e1 ▸ ra_set h hk hb hh hv, v, hv, hv0, e1, fun hx => absurd hx hpr⟩
    have hre : mRl1 p b k M = if M.1 0 (16 * k + b) = 4 then mSe M k b 3 else if M.1 0 (16 * k + b) = 2 then mSe M k b 1 else M := by
      unfold mRl1
      rw [if_neg hkp, if_neg (by rw [e0]; exact hnz), if_neg (fun hx => hx hm)]
    have hxe : xYi S (2 * k + b % 2) = if xDi (S.1 0 (2 * k + b % 2)) = true then zA S 0 (upd (S.1 0) (2 * k + b % 2) 3) else zA S 0 (upd (S.1 0) (2 * k + b % 2) 1) := by
      unfold xYi
      by_cases hx : xDi (S.1 0 (2 * k + b % 2)) = true
      · rw [hx, if_pos (by simp [hpr]), if_pos rfl]
      · rw [Bool.eq_false_iff.mpr hx]
        rfl
    rw [e0] at hre
    have e0' := e0
    rcases h4 with e | e | e | e | e
    · exact absurd e hnz
    · refine key 1 (Or.inr (Or.inl rfl)) (by decide) ?_ ?_
      · rw [hre, e, if_neg (by decide), if_neg (by decide), mSe_0 (e0.trans e)]
      · rw [hxe, e, if_neg (by decide)]
    · refine key 1 (Or.inr (Or.inl rfl)) (by decide) ?_ ?_
      · rw [hre, e, if_neg (by decide), if_pos rfl]
      · rw [hxe, e, if_neg (by decide)]
    · refine key 3 (Or.inr (Or.inr (Or.inr (Or.inl rfl)))) (by decide) ?_ ?_
      · rw [hre, e, if_neg (by decide), if_neg (by decide), mSe_0 (e0.trans e)]
      · rw [hxe, e, if_pos (by decide)]
    · refine key 3 (Or.inr (Or.inr (Or.inr (Or.inl rfl)))) (by decide) ?_ ?_
      · rw [hre, e, if_pos rfl]
      · rw [hxe, e, if_pos (by decide)]
/-- what a READ leaves of the other holders, on both sides -/
def ShOut (N : Nat) (S M S' M' : SX) (p b : Nat) : Prop :=
  RA N S' M' ∧ S'.1 2 = S.1 2 ∧ M'.1 1 = M.1 1 ∧ S'.1 0 (2 * p + b % 2) = S.1 0 (2 * p + b % 2) ∧ S'.2 = S.2 ∧ M'.2 = M.2 ∧
  (∀ q c, q < 4 → c < 16 → c ≠ b → M'.1 0 (16 * q + c) = M.1 0 (16 * q + c)) ∧ (∀ q, q < 4 → (M'.1 0 (16 * q + b) = 0 ↔ M.1 0 (16 * q + b) = 0)) ∧ M'.1 0 (16 * p + b) = M.1 0 (16 * p + b)
theorem sh_steps {N p b : Nat} (hp : p < 4) (hb : b < 16) : ∀ (n k : Nat) (S M : SX) (al : Bool), n + k ≤ 4 → RA N S M → (¬ S.2 0 < 2 ∨ ∀ q, q < 4 → mDi (M.1 0 (16 * q + b)) = false) →
    ShOut N S M (xShF p b n k (S, al)).1 (mRlF p b n k M) p b ∧ (S.2 0 < 2 → ∀ q, k ≤ q → q < k + n → q ≠ p → (mRlF p b n k M).1 0 (16 * q + b) = 0 ∨ (mRlF p b n k M).1 0 (16 * q + b) = 1) ∧ (∀ q, q < k → (mRlF p b n k M).1 0 (16 * q + b) = M.1 0 (16 * q + b)) := by
  intro n
  induction n with
  | zero => exact fun k S M al _ h _ => ⟨⟨h, rfl, rfl, rfl, rfl, rfl, fun _ _ _ _ _ => rfl, fun _ _ => Iff.rfl, rfl⟩, fun _ q h1 h2 => absurd h2 (by omega), fun _ _ => rfl⟩
  | succ n ih =>
    intro k S M al hk h hd
    show ShOut N S M (xShF p b n (k + 1) (xSh1 p b k (S, al))).1 (mRlF p b n (k + 1) (mRl1 p b k M)) p b ∧ (S.2 0 < 2 → ∀ q, k ≤ q → q < k + (n + 1) → q ≠ p → (mRlF p b n (k + 1) (mRl1 p b k M)).1 0 (16 * q + b) = 0 ∨ (mRlF p b n (k + 1) (mRl1 p b k M)).1 0 (16 * q + b) = 1) ∧ (∀ q, q < k → (mRlF p b n (k + 1) (mRl1 p b k M)).1 0 (16 * q + b) = M.1 0 (16 * q + b))
    by_cases e : k = p
    · rw [show xSh1 p b k (S, al) = (S, al) by simp [xSh1, e], show mRl1 p b k M = M by simp [mRl1, e]]
      obtain ⟨a1, a2, a3⟩ := ih (k + 1) S M al (by omega) h hd
      exact ⟨a1, fun hx q h1 h2 h3 => a2 hx q (by omega) (by omega) h3, fun q hq => a3 q (by omega)⟩
    · by_cases hh : xHo S k b = true
      · obtain ⟨b1, v, hv, hv0, b2, b3⟩ := ra_y h (p := p) (show k < 4 by omega) hb e hh (hd.imp id (fun g => g k (by omega)))
        rw [show xSh1 p b k (S, al) = (xYi S (2 * k + b % 2), false) by simp [xSh1, e, hh]]
        rw [b2] at b1 ⊢
        have gs : (xYi S (2 * k + b % 2)).2 = S.2 := xYi_s S _
        obtain ⟨⟨c1, c2, c3, c4, c5, c6, c7, c8, c10⟩, a2, a3⟩ := ih (k + 1) (xYi S (2 * k + b % 2)) (mSe M k b v) false (by omega) b1 (by
          rw [gs]
          by_cases hpr : S.2 0 < 2
          · refine Or.inr (fun q hq => ?_)
            show mDi (upd (M.1 0) (16 * k + b) v (16 * q + b)) = false
            by_cases e2 : q = k
            · rw [e2, pk_us, b3 hpr]
              decide
            · rw [pk_un (by omega)]
              exact (hd.resolve_left (fun hx => hx hpr)) q hq
          · exact Or.inl hpr)
        have gm : (mSe M k b v).1 0 = upd (M.1 0) (16 * k + b) v := rfl
        have hmk : ¬ M.1 0 (16 * k + b) = 0 := (ra_held h (by omega) hb).mp hh
        refine ⟨⟨c1, c2.trans (xYi_2 S _), c3, c4.trans (xYi_ne (by omega)), c5.trans gs, c6, fun q c hq hc hne => ?_, fun q hq => ?_, ?_⟩, fun hx q h1 h2 h3 => ?_, fun q hq => ?_⟩
        · rw [c7 q c hq hc hne, gm, pk_un (by omega)]
        · rw [c8 q hq, gm]
          by_cases e2 : q = k
          · rw [e2, pk_us]
            exact ⟨fun hx => absurd hx hv0, fun hx => absurd hx hmk⟩
          · rw [pk_un (by omega)]
        · rw [c10, gm, pk_un (by omega)]
        · by_cases e2 : q = k
          · rw [a3 q (by omega), gm, e2, pk_us]
            exact Or.inr (b3 hx)
          · exact a2 (by rw [gs]; exact hx) q (by omega) (by omega) h3
        · rw [a3 q (by omega), gm, pk_un (by omega)]
      · have hh' := Bool.eq_false_iff.mpr hh
        have hz : M.1 0 (16 * k + b) = 0 := by rw [h.1 k b (by omega) hb, if_neg hh]
        rw [show xSh1 p b k (S, al) = (S, al) by simp [xSh1, hh'], show mRl1 p b k M = M by simp [mRl1, hz]]
        obtain ⟨a1, a2, a3⟩ := ih (k + 1) S M al (by omega) h hd
        refine ⟨a1, fun hx q h1 h2 h3 => ?_, fun q hq => a3 q (by omega)⟩
        by_cases e2 : q = k
        · rw [a3 q (by omega), e2, hz]
          exact Or.inl rfl
        · exact a2 hx q (by omega) (by omega) h3
theorem pr_lt {v : Int32} (h : v = 0 ∨ v = 1 ∨ v = 2 ∨ v = 3) : (v < 2 ↔ (v = 0 ∨ v = 1)) ∧ (¬ 2 ≤ v ↔ (v = 0 ∨ v = 1)) ∧ (¬ v ≤ 0 ↔ ¬ v = 0) ∧ (3 ≤ v ↔ v = 3) := by
  rcases h with rfl | rfl | rfl | rfl <;> decide
/-- the whole READ over the other holders -/
theorem ra_sh {N : Nat} {S M : SX} (h : RA N S M) (hc : Co M) {p b : Nat} (hp : p < 4) (hb : b < 16) (he : S.1 0 (2 * p + b % 2) = 0) :
    ShOut N S M (xShF p b 4 0 (S, true)).1 (mRlF p b 4 0 (mLoM (mDhF M b 4 0) M b)) p b ∧ (S.2 0 < 2 → ∀ q, q < 4 → q ≠ p → (mRlF p b 4 0 (mLoM (mDhF M b 4 0) M b)).1 0 (16 * q + b) = 0 ∨ (mRlF p b 4 0 (mLoM (mDhF M b 4 0) M b)).1 0 (16 * q + b) = 1) := by
  have s0 := h.2.2.2.2.2.2.2.1.1
  have r9 := h.2.2.2.2.2.2.2.2
  by_cases hpr : S.2 0 < 2
  · rcases ra_dl h hb 4 0 (by omega) with ⟨-, g2, g3⟩ | ⟨q, hq, -, g2, g3, g4⟩
    · have e1 : mLoM (mDhF M b 4 0) M b = M := by
        rw [g2]
        unfold mLoM
        rw [if_neg (by simp)]
      rw [e1]
      obtain ⟨a1, a2, -⟩ := sh_steps hp hb 4 0 S M true (by omega) h (Or.inr (fun q hq => g3 q (by omega) (by omega)))
      exact ⟨a1, fun hx q hq hne => a2 hx q (by omega) (by omega) hne⟩
    · -- one dirty holder, and it is the only one
      have hm : ¬ 2 ≤ M.2 0 := by
        rw [s0]
        exact (pr_lt r9).2.1.mpr ((pr_lt r9).1.mp hpr)
      have hqz : ¬ M.1 0 (16 * q + b) = 0 := (ra_held h hq hb).mp g3
      have hqp : q ≠ p := fun e => by
        have := (xHo_t.mp g3).1
        rw [e] at this
        exact this he
      have honly : ∀ r, r < 4 → r ≠ q → M.1 0 (16 * r + b) = 0 := fun r hr hne => Classical.byContradiction fun hx => by
        have h1 := hc (by rw [s0]; exact (pr_lt r9).1.mp hpr) q r b hq hr hb (fun z => hne z.symm) hqz hx
        rw [h1] at g4
        exact absurd g4 (by decide)
      have e1 : mLoM (mDhF M b 4 0) M b = mTm M q b := by
        rw [g2]
        unfold mLoM
        rw [if_pos (by simp [hm, nI_pos (show q < 2 ^ 31 by omega)]), nI_clamp (by omega)]
      have e2 : mRlF p b 4 0 (mTm M q b) = mSe (mTm M q b) q b 1 := rl_one hb hqp 4 0 (mTm M q b) hm (by omega) (by omega) hqz (fun r _ h2 h3 => honly r (by omega) h3)
      have e3 : xShF p b 4 0 (S, true) = (xYi S (2 * q + b % 2), false) := sh_one hqp 4 0 S true (by omega) (by omega) g3 (fun r _ h2 h3 => Bool.eq_false_iff.mpr (fun hx => (ra_held h (show r < 4 by omega) hb).mp hx (honly r (by omega) h3)))
      have hdi : xDi (S.1 0 (2 * q + b % 2)) = true := by
        rw [← ra_c h hq hb, Bool.and_eq_true] at g4
        exact g4.2
      have e4 : xYi S (2 * q + b % 2) = zA (xCp S (2 * q + b % 2)) 0 (upd ((xCp S (2 * q + b % 2)).1 0) (2 * q + b % 2) 1) := by
        unfold xYi
        rw [hdi, if_neg (by simp [hpr]), if_pos rfl]
      rw [e1, e2, e3]
      show ShOut N S M (xYi S (2 * q + b % 2)) (mSe (mTm M q b) q b 1) p b ∧ _
      have gm : (mSe (mTm M q b) q b 1).1 0 = upd (M.1 0) (16 * q + b) 1 := rfl
      refine ⟨⟨?_, xYi_2 S _, rfl, xYi_ne (by omega), xYi_s S _, rfl, fun r c hr hcc hne => ?_, fun r hr => ?_, ?_⟩, fun _ r hr hne => ?_⟩
      · rw [e4]
        exact ra_set (ra_cp h hq hb g3) hq hb g3 (Or.inr (Or.inl rfl))
      · rw [gm, pk_un (by omega)]
      · rw [gm]
        by_cases e5 : r = q
        · rw [e5, pk_us]
          exact ⟨fun hx => absurd hx (by decide), fun hx => absurd hx hqz⟩
        · rw [pk_un (by omega)]
      · rw [gm, pk_un (by omega)]
      · rw [gm]
        by_cases e5 : r = q
        · rw [e5, pk_us]
          exact Or.inr rfl
        · rw [pk_un (by omega)]
          exact Or.inl (honly r hr e5)
  · have hm : 2 ≤ M.2 0 := by
      rw [s0]
      exact Classical.byContradiction fun hx => hpr ((pr_lt r9).1.mpr ((pr_lt r9).2.1.mp hx))
    have e1 : mLoM (mDhF M b 4 0) M b = M := by
      unfold mLoM
      rw [if_neg (by simp [hm])]
    rw [e1]
    obtain ⟨a1, a2, -⟩ := sh_steps hp hb 4 0 S M true (by omega) h (Or.inl hpr)
    exact ⟨a1, fun hx q hq hne => a2 hx q (by omega) (by omega) hne⟩
end
section
/-! whole calls -/
def RR (N : Nat) (S M : SX) : Prop := RA N S M ∧ Co M
theorem rr_mono {N N' : Nat} {S M : SX} (h : RR N S M) (hN : N ≤ N') : RR N' S M := ⟨ra_mono h.1 hN, h.2⟩
theorem co_fin {M M4 : SX} (hc : Co M) (h2 : M4.2 0 = M.2 0) {p b : Nat} {v : Int32}
    (hcb : ∀ q c, q < 4 → c < 16 → c ≠ b → M4.1 0 (16 * q + c) = 0 ∨ M4.1 0 (16 * q + c) = M.1 0 (16 * q + c))
    (hx : (M.2 0 = 0 ∨ M.2 0 = 1) → (∀ q, q < 4 → q ≠ p → M4.1 0 (16 * q + b) = 0) ∨ (v = 1 ∧ ∀ q, q < 4 → q ≠ p → M4.1 0 (16 * q + b) = 0 ∨ M4.1 0 (16 * q + b) = 1)) (hb : b < 16) : Co (mSe M4 p b v) := by
  intro hpr r q c hr hq hcc hne n1 n2
  have gm : (mSe M4 p b v).1 0 = upd (M4.1 0) (16 * p + b) v := rfl
  have hpr' : M.2 0 = 0 ∨ M.2 0 = 1 := by
    rw [← h2]
    exact hpr
  rw [gm] at n1 n2 ⊢
  by_cases e : c = b
  · subst e
    rcases hx hpr' with g | ⟨g1, g⟩
    · by_cases e2 : r = p
      · have e3 : q ≠ p := fun z => hne (e2.trans z.symm)
        rw [pk_un (by omega)] at n2
        exact absurd (g q hq e3) n2
      · rw [pk_un (by omega)] at n1
        exact absurd (g r hr e2) n1
    · by_cases e2 : r = p
      · rw [e2, pk_us]
        exact g1
      · rw [pk_un (by omega)] at n1 ⊢
        exact (g r hr e2).resolve_left n1
  · rw [pk_un (by omega)] at n1 n2 ⊢
    have e1 := (hcb r c hr hcc e).resolve_left n1
    have e2 := (hcb q c hq hcc e).resolve_left n2
    rw [e1] at n1 ⊢
    rw [e2] at n2
    exact hc hpr' r q c hr hq hcc hne n1 n2
theorem mDhF_c {M M' : SX} (h : M'.1 0 = M.1 0) (b : Nat) : ∀ n k : Nat, mDhF M' b n k = mDhF M b n k := by
  intro n
  induction n with
  | zero => exact fun _ => rfl
  | succ n ih =>
    intro k
    unfold mDhF
    rw [h, ih]
theorem xDrF_2 {p b : Nat} : ∀ (n k : Nat) (S : SX), (xDrF p b n k S).2 = S.2 := by
  intro n
  induction n with
  | zero => exact fun _ _ => rfl
  | succ n ih =>
    intro k S
    show (xDrF p b n (k + 1) (xDr1 p b k S)).2 = _
    rw [ih]
    unfold xDr1
    split <;> rfl
theorem rr_lo2 {N : Nat} {S M T U : SX} {p b k : Nat} (hp : p < 4) (hb : b < 16) (hTe : xLoT S p b k = T) (hUe : mLoU (mLoT M p b k) p b = U) (h3 : RA (N + 2) T U) (hw : ∀ j, j < 2 → U.1 1 (32 * p + (2 * b + j)) = T.1 2 (2 * (2 * p + b % 2) + j)) (heT : T.1 0 (2 * p + b % 2) = 0) (hcU : Co U) (hfz : mDhF U b 4 0 = mDhF (mLoT M p b k) b 4 0) :
    RR (N + 2) (xLo S p b k) (mLo M p b k) ∧ xHo (xLo S p b k) p b = true := by
  by_cases e : k = 1
  · obtain ⟨a1, a2, a2', a3, a4, a5, a6, a7, a8, a9⟩ := ra_dr (p := p) hb 4 0 T U (by omega) h3
    have f := ra_fin a1 hp hb (by rw [a4]; exact heT) (fun j hj => by rw [a3, a2]; exact hw j hj) (v := 4) (Or.inr (Or.inr (Or.inr (Or.inr rfl)))) (by decide)
    have ex : xLo S p b k = xLoE (xDrF p b 4 0 T, 4) (2 * p + b % 2) b := by
      unfold xLo xLoR
      rw [if_pos e, hTe]
    have em : mLo M p b k = mSe (mEoF p b 4 0 U) p b 4 := by
      unfold mLo
      rw [if_pos e, hUe]
    rw [ex, em]
    exact ⟨⟨f.1, co_fin hcU (by rw [a6]) (fun q c _ _ _ => a8.2 _) (fun _ => Or.inl (fun q hq hne => a7 q (by omega) (by omega) hne)) hb⟩, f.2⟩
  · obtain ⟨⟨c1, c2, c3, c4, c5, c6, c7, c8, c10⟩, a2⟩ := ra_sh h3 hcU hp hb heT
    rw [hfz] at c1 c3 c6 c7 c8 c10 a2
    have hfl := sh_flag (p := p) (b := b) 4 0 T true
    rw [Bool.true_and] at hfl
    have hot := ot_flag h3 (p := p) hb 4 0 0 (by omega)
    have hod : decide (mOtF U p b 4 0 0 = 0) = hN T p b 4 0 := by
      by_cases e2 : hN T p b 4 0 = true
      · rw [e2, decide_eq_true_eq]
        exact hot.mpr ⟨rfl, e2⟩
      · rw [Bool.eq_false_iff.mpr e2, decide_eq_false_iff_not]
        exact fun hx => e2 (hot.mp hx).2
    have s0 := h3.2.2.2.2.2.2.2.1.1
    have r9 := h3.2.2.2.2.2.2.2.2
    have hpz : decide (¬ U.2 0 ≤ 0) = decide (¬ T.2 0 = 0) := by
      rw [s0]
      exact decide_eq_decide.mpr (pr_lt r9).2.2.1
    generalize hv : (if (hN T p b 4 0 && decide (¬ T.2 0 = 0)) = true then (2 : Int32) else 1) = v
    have ex : xLo S p b k = xLoE ((xShF p b 4 0 (T, true)).1, v) (2 * p + b % 2) b := by
      unfold xLo xLoR
      rw [if_neg e, hTe]
      unfold xSh
      rw [hfl, c5, hv]
    have em : mLo M p b k = mSe (mRlF p b 4 0 (mLoM (mDhF (mLoT M p b k) b 4 0) U b)) p b v := by
      unfold mLo
      rw [if_neg e, hUe]
      unfold mLoE
      rw [hod, c6, hpz, Bool.and_comm, hv]
    have hv5 : st5 v ∧ ¬ v = 0 ∧ (v = 1 ∨ hN T p b 4 0 = true) := by
      by_cases e2 : (hN T p b 4 0 && decide (¬ T.2 0 = 0)) = true
      · rw [if_pos e2] at hv
        rw [← hv]
        rw [Bool.and_eq_true] at e2
        exact ⟨Or.inr (Or.inr (Or.inl rfl)), by decide, Or.inr e2.1⟩
      · rw [if_neg e2] at hv
        rw [← hv]
        exact ⟨Or.inr (Or.inl rfl), by decide, Or.inl rfl⟩
    have f := ra_fin c1 hp hb (by rw [c4]; exact heT) (fun j hj => by rw [c3, c2]; exact hw j hj) hv5.1 hv5.2.1
    rw [ex, em]
    refine ⟨⟨f.1, co_fin hcU (by rw [c6]) (fun q c hq hcc hne => Or.inr (c7 q c hq hcc hne)) (fun hpr => ?_) hb⟩, f.2⟩
    rcases hv5.2.2 with e3 | e3
    · refine Or.inr ⟨e3, fun q hq hne => a2 ?_ q hq hne⟩
      rw [← s0]
      exact (pr_lt (by rw [s0]; exact r9)).1.mpr hpr
    · refine Or.inl (fun q hq hne => (c8 q hq).mpr ?_)
      have := hN_f 4 0 e3 q (by omega) (by omega) hne
      rw [h3.1 q b hq hb, this]
      rfl
theorem mTr_0 (M : SX) (k p b : Nat) : (mTr M k p b).1 0 = M.1 0 := rfl
theorem mTr_s (M : SX) (k p b : Nat) : (mTr M k p b).2 0 = M.2 0 := rfl
/-- a miss -/
theorem rr_lo {N : Nat} {S M : SX} (h : RR N S M) {p b k : Nat} (hp : p < 4) (hb : b < 16) (hk : k < 2) : RR (N + 2) (xLo S p b k) (mLo M p b k) ∧ xHo (xLo S p b k) p b = true := by
  obtain ⟨h0, hc0⟩ := h
  have h1 : RA (N + 1) (xEm S (2 * p + b % 2)) (mEvF p 8 (b % 2) M) := ra_ev h0 hp (by omega)
  have he1 : (xEm S (2 * p + b % 2)).1 0 (2 * p + b % 2) = 0 := by
    show upd ((xEmT S (2 * p + b % 2)).1 0) (2 * p + b % 2) 0 (2 * p + b % 2) = 0
    rw [pk_us]
  have h2 : RA (N + 2) (xTr (xEm S (2 * p + b % 2)) k p b) (mLoT M p b k) := ra_tr h1 (by omega)
  obtain ⟨h3, hw, e0, em0, em2⟩ := ra_fe h2 hp hb (show (xTr (xEm S (2 * p + b % 2)) k p b).1 0 (2 * p + b % 2) = 0 from he1)
  have hU : mCw p b (mDhF (mLoT M p b k) b 4 0) (mLoT M p b k) = mLoU (mLoT M p b k) p b := rfl
  have hT : xFe (xTr (xEm S (2 * p + b % 2)) k p b) (2 * p + b % 2) b = xLoT S p b k := rfl
  rw [hU] at h3 hw em0 em2
  rw [hT] at h3 hw e0
  have heT : (xLoT S p b k).1 0 (2 * p + b % 2) = 0 := by
    rw [e0]
    exact he1
  have hsub : Sub M (mLoU (mLoT M p b k) p b) := ⟨by rw [em2, mLoT, mTr_s]; exact (sub_ev p 8 (b % 2) M).1, fun j => by rw [em0, mLoT, mTr_0]; exact (sub_ev p 8 (b % 2) M).2 j⟩
  have hcU : Co (mLoU (mLoT M p b k) p b) := hsub.co hc0
  have hfz : mDhF (mLoU (mLoT M p b k) p b) b 4 0 = mDhF (mLoT M p b k) b 4 0 := mDhF_c em0 b 4 0
  exact rr_lo2 hp hb rfl rfl h3 hw heT hcU hfz
theorem ra_z2 {N : Nat} {S M : SX} (h : RA N S M) : RA N (zF S 2 (S.2 2 + 1)) (zF M 2 (M.2 2 + 1)) := by
  obtain ⟨r1, r2, r3, r4, r5, r6, r7, ⟨s0, s1, s2, s3⟩, r9⟩ := h
  exact ⟨r1, r2, r3, r4, r5, r6, r7, ⟨s0, s1, by show M.2 2 + 1 = S.2 2 + 1; rw [s2], s3⟩, r9⟩
theorem ra_z3 {N : Nat} {S M : SX} (h : RA N S M) : RA N (zF S 3 (S.2 3 + 1)) (zF M 3 (M.2 3 + 1)) := by
  obtain ⟨r1, r2, r3, r4, r5, r6, r7, ⟨s0, s1, s2, s3⟩, r9⟩ := h
  exact ⟨r1, r2, r3, r4, r5, r6, r7, ⟨s0, s1, s2, by show M.2 3 + 1 = S.2 3 + 1; rw [s3]⟩, r9⟩
theorem rr_th {N : Nat} {S M : SX} (h : RR N S M) (v : Int32) : RR N S (zF M 4 v) := h
theorem ho_eq {N : Nat} {S M : SX} (h : RA N S M) {p b : Nat} (hp : p < 4) (hb : b < 16) : mHo M p b = xHo S p b := by
  unfold mHo
  by_cases e : xHo S p b = true
  · rw [e, decide_eq_true_eq]
    exact fun hx => (ra_held h hp hb).mp e ((st5_le (ra_st h hp hb)).mp hx)
  · rw [Bool.eq_false_iff.mpr e, decide_eq_false_iff_not]
    refine fun hx => hx ((st5_le (ra_st h hp hb)).mpr ?_)
    exact Classical.byContradiction fun hy => e ((ra_held h hp hb).mpr hy)
/-- the block is brought in -/
theorem rr_br {N : Nat} {S M : SX} (h : RR N S M) {p b k : Nat} (hp : p < 4) (hb : b < 16) (hk : k < 2) :
    RR (N + 2) (xBr S p b k) (if mHo M p b = true then mHi M p b else mLo (mHi M p b) p b k) ∧ xHo (xBr S p b k) p b = true := by
  rw [ho_eq h.1 hp hb]
  unfold xBr mHi
  rw [ho_eq h.1 hp hb]
  by_cases e : xHo S p b = true
  · rw [if_pos e, if_pos e, if_pos e]
    exact ⟨⟨ra_mono (ra_z2 h.1) (by omega), h.2⟩, e⟩
  · rw [if_neg e, if_neg e, if_neg e]
    exact rr_lo (N := N) (S := zF S 3 (S.2 3 + 1)) (M := zF M 3 (M.2 3 + 1)) ⟨ra_z3 h.1, h.2⟩ hp hb hk
theorem rr_rd {N : Nat} {S M : SX} (h : RR N S M) {p a : Nat} (hp : p < 4) (ha : a < 32) :
    RR (N + 2) (xBr S p (a / 2) 0) (mRd M p a) ∧ (mRd M p a).1 1 (32 * p + a) = (xBr S p (a / 2) 0).1 2 (2 * (2 * p + a / 2 % 2) + a % 2) := by
  have g := rr_br h hp (show a / 2 < 16 by omega) (show 0 < 2 by omega)
  exact ⟨g.1, g.1.1.2.1 p a hp ha g.2⟩
theorem xLo_s (S : SX) (p b k : Nat) : (xLo S p b k).2 0 = S.2 0 := by
  have e1 : ∀ i, (xEm S i).2 0 = S.2 0 := fun i => by
    unfold xEm xEmT
    split <;> rfl
  have e2 : (xLoT S p b k).2 0 = S.2 0 := by
    rw [← e1 (2 * p + b % 2)]
    unfold xLoT xFe
    split <;> rfl
  have e3 : ∀ (n k : Nat) (T : SX) (al : Bool), (xShF p b n k (T, al)).1.2 = T.2 := by
    intro n
    induction n with
    | zero => exact fun _ _ _ => rfl
    | succ n ih =>
      intro k T al
      show (xShF p b n (k + 1) (xSh1 p b k (T, al))).1.2 = _
      unfold xSh1
      split
      · rw [ih, xYi_s]
      · rw [ih]
  unfold xLo xLoR
  split
  · show (xDrF p b 4 0 (xLoT S p b k)).2 0 = _
    rw [xDrF_2, e2]
  · show (xShF p b 4 0 (xLoT S p b k, true)).1.2 0 = _
    rw [e3, e2]
theorem xBr_s (S : SX) (p b k : Nat) : (xBr S p b k).2 0 = S.2 0 := by
  unfold xBr
  split
  · rfl
  · rw [xLo_s]
    rfl
/-- the writer's line becomes the only one -/
theorem rr_cl {N : Nat} {S M : SX} (h : RR N S M) {p b : Nat} (hp : p < 4) (hb : b < 16) (hh : xHo S p b = true) :
    RR (N + 1) (xCl S p b) (if xEl (M.1 0 (16 * p + b)) = true then mSe (mEoF p b 4 0 (mTr M 2 p b)) p b 4 else mSe M p b 4) ∧ xHo (xCl S p b) p b = true := by
  have e0 : M.1 0 (16 * p + b) = S.1 0 (2 * p + b % 2) := by rw [h.1.1 p b hp hb, if_pos hh]
  have h4 : st5 (4 : Int32) := Or.inr (Or.inr (Or.inr (Or.inr rfl)))
  have held : ∀ T : SX, T.1 1 = S.1 1 → xHo (zA T 0 (upd (T.1 0) (2 * p + b % 2) 4)) p b = true := fun T hT => xHo_t.mpr ⟨by
    show ¬ upd (T.1 0) (2 * p + b % 2) 4 (2 * p + b % 2) = 0
    rw [pk_us]
    decide, by
    show T.1 1 (2 * p + b % 2) = nI b
    rw [hT]
    exact (xHo_t.mp hh).2⟩
  unfold xCl xClT
  rw [e0]
  by_cases e : xEl (S.1 0 (2 * p + b % 2)) = true
  · rw [if_pos e, if_pos e]
    obtain ⟨a1, a2, a2', a3, a4, a5, a6, a7, a8, a9⟩ := ra_dr (p := p) hb 4 0 (xTr S 2 p b) (mTr M 2 p b) (by omega) (ra_tr h.1 (by omega))
    have hh2 : xHo (xDrF p b 4 0 (xTr S 2 p b)) p b = true := by
      rw [← hh]
      exact xHo_c (S := S) a4 (by rw [a2']; rfl)
    refine ⟨⟨ra_set a1 hp hb hh2 h4, co_fin (M := M) h.2 (by rw [a6]; rfl) (fun q c _ _ _ => a8.2 _) (fun _ => Or.inl (fun q hq hne => a7 q (by omega) (by omega) hne)) hb⟩, held _ a2'⟩
  · rw [if_neg e, if_neg e]
    refine ⟨⟨ra_mono (ra_set h.1 hp hb hh h4) (by omega), co_fin h.2 rfl (fun q c _ _ _ => Or.inr rfl) (fun hpr => Or.inl (fun q hq hne => Classical.byContradiction fun hx => ?_)) hb⟩, held _ rfl⟩
    have h1 := h.2 hpr p q b hp hq hb (fun z => hne z.symm) ((ra_held h.1 hp hb).mp hh) hx
    rw [← e0, h1] at e
    exact e (by decide)
theorem ra_up {N p a : Nat} (w : Int32) (ha : a < 32) : ∀ (n k : Nat) (S M : SX) (ot : Bool), n + k ≤ 4 → RA N S M →
    RA N (xUpF p a w n k (S, ot)).1 (mUpF p a w n k M) ∧ (xUpF p a w n k (S, ot)).1.1 0 (2 * p + a / 2 % 2) = S.1 0 (2 * p + a / 2 % 2) ∧ (xUpF p a w n k (S, ot)).1.1 1 = S.1 1 ∧ (mUpF p a w n k M).2 = M.2 ∧ (xUpF p a w n k (S, ot)).2 = (ot || !hN S p (a / 2) n k) := by
  intro n
  induction n with
  | zero => exact fun k S M ot _ h => ⟨h, rfl, rfl, rfl, (Bool.or_false ot).symm⟩
  | succ n ih =>
    intro k S M ot hk h
    show RA N (xUpF p a w n (k + 1) (xUp1 p a w k (S, ot))).1 (mUpF p a w n (k + 1) (mUp1 p a w k M)) ∧ (xUpF p a w n (k + 1) (xUp1 p a w k (S, ot))).1.1 0 (2 * p + a / 2 % 2) = S.1 0 (2 * p + a / 2 % 2) ∧ (xUpF p a w n (k + 1) (xUp1 p a w k (S, ot))).1.1 1 = S.1 1 ∧ (mUpF p a w n (k + 1) (mUp1 p a w k M)).2 = M.2 ∧ (xUpF p a w n (k + 1) (xUp1 p a w k (S, ot))).2 = (ot || !((decide (k = p) || !xHo S k (a / 2)) && hN S p (a / 2) n (k + 1)))
    by_cases e : k = p
    · rw [show xUp1 p a w k (S, ot) = (S, ot) by simp [xUp1, e], show mUp1 p a w k M = M by simp [mUp1, e]]
      obtain ⟨a1, a2, a3, a4, a5⟩ := ih (k + 1) S M ot (by omega) h
      exact ⟨a1, a2, a3, a4, by rw [a5]; simp [e]⟩
    · by_cases hh : xHo S k (a / 2) = true
      · have hz : ¬ M.1 0 (16 * k + a / 2) = 0 := (ra_held h (by omega) (by omega)).mp hh
        have g := ra_set (ra_word h (show k < 4 by omega) ha hh w) (show k < 4 by omega) (show a / 2 < 16 by omega) hh (v := 1) (Or.inr (Or.inl rfl))
        rw [show xUp1 p a w k (S, ot) = (zA (zA S 2 (upd (S.1 2) (2 * (2 * k + a / 2 % 2) + a % 2) w)) 0 (upd (S.1 0) (2 * k + a / 2 % 2) 1), true) by simp [xUp1, e, hh], show mUp1 p a w k M = mSe (zA M 1 (upd (M.1 1) (32 * k + a) w)) k (a / 2) 1 by simp [mUp1, e, hz]]
        obtain ⟨a1, a2, a3, a4, a5⟩ := ih (k + 1) (zA (zA S 2 (upd (S.1 2) (2 * (2 * k + a / 2 % 2) + a % 2) w)) 0 (upd (S.1 0) (2 * k + a / 2 % 2) 1)) (mSe (zA M 1 (upd (M.1 1) (32 * k + a) w)) k (a / 2) 1) true (by omega) g
        refine ⟨a1, a2.trans ?_, a3, a4, by rw [a5]; simp [e, hh]⟩
        show upd (S.1 0) (2 * k + a / 2 % 2) 1 (2 * p + a / 2 % 2) = _
        rw [pk_un (by omega)]
      · have hh' := Bool.eq_false_iff.mpr hh
        have hz : M.1 0 (16 * k + a / 2) = 0 := by rw [h.1 k (a / 2) (by omega) (by omega), if_neg hh]
        rw [show xUp1 p a w k (S, ot) = (S, ot) by simp [xUp1, hh'], show mUp1 p a w k M = M by simp [mUp1, hz]]
        obtain ⟨a1, a2, a3, a4, a5⟩ := ih (k + 1) S M ot (by omega) h
        exact ⟨a1, a2, a3, a4, by rw [a5]; simp [hh']⟩
theorem co_p3 {M : SX} (h : M.2 0 = 3) : Co M := fun hp => by
  rw [h] at hp
  rcases hp with hp | hp <;> exact absurd hp (by decide)
/-- a write -/
theorem rr_wr {N : Nat} {S M : SX} (h : RR N S M) {p a : Nat} (hp : p < 4) (ha : a < 32) (w : Int32) : RR (N + 3) (xWr S p a w) (mWr M p a w) := by
  have hb : a / 2 < 16 := by omega
  have hk : (if 3 ≤ (mHi M p (a / 2)).2 0 then 0 else 1) = if S.2 0 = 3 then 0 else 1 := by
    have e1 : (mHi M p (a / 2)).2 0 = S.2 0 := by
      rw [← h.1.2.2.2.2.2.2.2.1.1]
      unfold mHi
      split <;> rfl
    have e2 := (pr_lt h.1.2.2.2.2.2.2.2.2).2.2.2
    rw [e1]
    by_cases e : S.2 0 = 3
    · rw [if_pos e, if_pos (e2.mpr e)]
    · rw [if_neg e, if_neg (fun hx => e (e2.mp hx))]
  have hB : mWrB M p a = if mHo M p (a / 2) = true then mHi M p (a / 2) else mLo (mHi M p (a / 2)) p (a / 2) (if S.2 0 = 3 then 0 else 1) := by
    unfold mWrB
    rw [hk]
  obtain ⟨g, gh⟩ := rr_br h hp hb (show (if S.2 0 = 3 then 0 else 1) < 2 by split <;> omega)
  rw [← hB] at g
  have gh : xHo (xWrB S p a) p (a / 2) = true := gh
  have g : RR (N + 2) (xWrB S p a) (mWrB M p a) := g
  unfold xWr mWr
  generalize hX : xWrB S p a = X at *
  generalize hY : mWrB M p a = Y at *
  have e0 : Y.1 0 (16 * p + a / 2) = X.1 0 (2 * p + a / 2 % 2) := by rw [g.1.1 p (a / 2) hp hb, if_pos gh]
  have s0 := g.1.2.2.2.2.2.2.2.1.1
  have e3 := (pr_lt g.1.2.2.2.2.2.2.2.2).2.2.2
  have hxT : xWrT S p a w = if X.2 0 = 3 then xTe X p a w else xCl X p (a / 2) := by
    unfold xWrT
    rw [hX]
  rw [hxT]
  unfold mWrT xWi
  by_cases e : X.2 0 = 3
  · rw [if_pos e]
    have hY3 : Y.2 0 = 3 := s0.trans e
    have hthree : 3 ≤ Y.2 0 := by
      rw [s0]
      exact e3.mpr e
    have fin : ∀ (Z V : SX) (due : Int32), RA (N + 3) Z V → xHo Z p (a / 2) = true → V.2 0 = 3 → st5 due → ¬ due = 0 → RR (N + 3) (zA (zA Z 0 (upd (Z.1 0) (2 * p + a / 2 % 2) due)) 2 (upd ((zA Z 0 (upd (Z.1 0) (2 * p + a / 2 % 2) due)).1 2) (2 * (2 * p + a / 2 % 2) + a % 2) w)) (mWrE V p a w due) := by
      intro Z V due q1 q2 q3 q4 q5
      have t := ra_set q1 hp hb q2 q4
      have q6 : xHo (zA Z 0 (upd (Z.1 0) (2 * p + a / 2 % 2) due)) p (a / 2) = true := xHo_t.mpr ⟨by
        show ¬ upd (Z.1 0) (2 * p + a / 2 % 2) due (2 * p + a / 2 % 2) = 0
        rw [pk_us]
        exact q5, (xHo_t.mp q2).2⟩
      exact ⟨ra_word t hp ha q6 w, co_p3 q3⟩
    unfold xTe xTeR
    rw [e0]
    by_cases e4 : xEl (X.1 0 (2 * p + a / 2 % 2)) = true
    · rw [if_pos e4, if_pos e4, if_pos hthree]
      have t := ra_tr (N := N + 2) g.1 (k := 3) (p := p) (b := a / 2) (by omega)
      obtain ⟨a1, a2, a3, a4, a5⟩ := ra_up (p := p) w ha 4 0 (xTr X 3 p (a / 2)) (mTr Y 3 p (a / 2)) false (by omega) t
      have hot := ot_flag t (p := p) hb 4 0 0 (by omega)
      have hdue : (if (xUpF p a w 4 0 (xTr X 3 p (a / 2), false)).2 = true then (3 : Int32) else 4) = if 0 < mOtF (mTr Y 3 p (a / 2)) p (a / 2) 4 0 0 then 3 else 4 := by
        rw [a5, Bool.false_or]
        by_cases e5 : hN (xTr X 3 p (a / 2)) p (a / 2) 4 0 = true
        · rw [e5, if_neg (by decide), if_neg (by rw [hot.mpr ⟨rfl, e5⟩]; decide)]
        · rw [Bool.eq_false_iff.mpr e5, if_pos (by decide), if_pos]
          exact Nat.pos_of_ne_zero (fun hx => e5 (hot.mp hx).2)
      rw [← hdue]
      refine fin _ _ _ a1 ?_ ?_ ?_ ?_
      · rw [← gh]
        exact xHo_c (S := X) a2 (by rw [a3]; rfl)
      · rw [a4]
        exact hY3
      · split
        · exact Or.inr (Or.inr (Or.inr (Or.inl rfl)))
        · exact Or.inr (Or.inr (Or.inr (Or.inr rfl)))
      · split <;> decide
    · rw [if_neg e4, if_neg e4]
      exact fin X Y 4 (ra_mono g.1 (by omega)) gh hY3 (Or.inr (Or.inr (Or.inr (Or.inr rfl)))) (by decide)
  · rw [if_neg e]
    have hthree : ¬ 3 ≤ Y.2 0 := by
      rw [s0]
      exact fun hx => e (e3.mp hx)
    obtain ⟨c1, c2⟩ := rr_cl g hp hb gh
    have hE : (if xEl (Y.1 0 (16 * p + a / 2)) = true then if 3 ≤ Y.2 0 then mWrE (mUpF p a w 4 0 (mTr Y 3 p (a / 2))) p a w (if 0 < mOtF (mTr Y 3 p (a / 2)) p (a / 2) 4 0 0 then 3 else 4) else mWrE (mEoF p (a / 2) 4 0 (mTr Y 2 p (a / 2))) p a w 4 else mWrE Y p a w 4)
        = zA (if xEl (Y.1 0 (16 * p + a / 2)) = true then mSe (mEoF p (a / 2) 4 0 (mTr Y 2 p (a / 2))) p (a / 2) 4 else mSe Y p (a / 2) 4) 1 (upd ((if xEl (Y.1 0 (16 * p + a / 2)) = true then mSe (mEoF p (a / 2) 4 0 (mTr Y 2 p (a / 2))) p (a / 2) 4 else mSe Y p (a / 2) 4).1 1) (32 * p + a) w) := by
      by_cases e4 : xEl (Y.1 0 (16 * p + a / 2)) = true
      · rw [if_pos e4, if_neg hthree, if_pos e4]
        rfl
      · rw [if_neg e4, if_neg e4]
        rfl
    rw [hE]
    exact ⟨ra_word c1.1 hp ha c2 w, c1.2⟩
theorem rr_ev {N : Nat} {S M : SX} (h : RR N S M) {p b : Nat} (hp : p < 4) (hb : b < 16) (hh : xHo S p b = true) :
    RR (N + 1) (xEm S (2 * p + b % 2)) (mEm M p b) ∧ xDi (S.1 0 (2 * p + b % 2)) = mDi (M.1 0 (16 * p + b)) := by
  obtain ⟨g1, g2⟩ := ra_em h.1 hp hb hh
  exact ⟨⟨g1, (sub_mEm M p b).co h.2⟩, g2⟩
/-- flush: one processor's two lines -/
theorem rr_flP {N : Nat} {S M : SX} (h : RR N S M) {p t : Nat} (hp : p < 4) :
    ∃ (S' M' : SX) (t' : Nat), mFlL p (M, t) = (M', t') ∧ (∀ n, xFlF (n + 2) (2 * p) (S, t) = xFlF n (2 * p + 2) (S', t')) ∧ RR (N + 2) S' M' := by
  obtain ⟨M1, a1, a2, a3⟩ := ra_fl h.1 hp (show 0 < 2 by omega) t
  have c1 : Co M1 := by
    rw [a3]
    exact (sub_ev p 8 0 M).co h.2
  obtain ⟨M2, b1, b2, b3⟩ := ra_fl a2 hp (show 1 < 2 by omega) (if xDi (S.1 0 (2 * p + 0)) = true then t + 1 else t)
  have c2 : Co M2 := by
    rw [b3]
    exact (sub_ev p 8 1 M1).co c1
  exact ⟨xEm (xEm S (2 * p + 0)) (2 * p + 1), M2, (if xDi ((xEm S (2 * p + 0)).1 0 (2 * p + 1)) = true then (if xDi (S.1 0 (2 * p + 0)) = true then t + 1 else t) + 1 else (if xDi (S.1 0 (2 * p + 0)) = true then t + 1 else t)), by unfold mFlL; rw [a1, b1], fun n => rfl, b2, c2⟩
theorem rr_fl {N : Nat} {S M : SX} (h : RR N S M) : RR (N + 8) (xFlF 8 0 (S, 0)).1 (mFlP 4 0 (M, 0)).1 ∧ (xFlF 8 0 (S, 0)).2 = (mFlP 4 0 (M, 0)).2 := by
  obtain ⟨S1, M1, t1, a1, a2, a3⟩ := rr_flP h (p := 0) (t := 0) (by omega)
  obtain ⟨S2, M2, t2, b1, b2, b3⟩ := rr_flP a3 (p := 1) (t := t1) (by omega)
  obtain ⟨S3, M3, t3, c1, c2, c3⟩ := rr_flP b3 (p := 2) (t := t2) (by omega)
  obtain ⟨S4, M4, t4, d1, d2, d3⟩ := rr_flP c3 (p := 3) (t := t3) (by omega)
  have ex : xFlF 8 0 (S, 0) = (S4, t4) := ((a2 6).trans ((b2 4).trans ((c2 2).trans (d2 0))))
  have em : mFlP 4 0 (M, 0) = (M4, t4) := by
    show mFlL 3 (mFlL 2 (mFlL 1 (mFlL 0 (M, 0)))) = _
    rw [a1, b1, c1, d1]
  rw [ex, em]
  exact ⟨d3, rfl⟩
theorem rr_ch {N : Nat} {S M : SX} (h : RR N S M) {v : Int32} (hv : v = 0 ∨ v = 1 ∨ v = 2 ∨ v = 3) : RR 0 (xSo S v) (mCh M v) := by
  have nh : ∀ p b, ¬ xHo (xSo S v) p b = true := fun p b hx => (xHo_t.mp hx).1 rfl
  refine ⟨⟨fun p b _ _ => by rw [if_neg (nh p b)]; rfl, fun p a _ _ hx => absurd hx (nh p _), fun i hi => ?_, fun i hi => Or.inl rfl, fun a ha => rfl, fun k hk => rfl, ⟨0, Nat.le_refl 0, rfl, fun k hk => rfl⟩, ⟨rfl, rfl, rfl, rfl⟩, hv⟩, fun _ p q b _ _ _ _ n1 => absurd rfl n1⟩
  obtain ⟨b, hb, e, -⟩ := h.1.2.2.1 i hi
  exact ⟨b, hb, e, fun hx => absurd rfl hx⟩
end
section
/-! the answers -/
theorem inW3 (x : Int32) : inW x 3 = inR x 4 := inW_R (n := 3) (by decide)
theorem inW15 (x : Int32) : inW x 15 = inR x 16 := inW_R (n := 15) (by decide)
theorem inW31 (x : Int32) : inW x 31 = inR x 32 := inW_R (n := 31) (by decide)
theorem inW4 (x : Int32) : inW x 4 = inR x 5 := inW_R (n := 4) (by decide)
theorem inW7 (x : Int32) : inW x 7 = inR x 8 := inW_R (n := 7) (by decide)
theorem two_in {x y : Int32} {a b : Nat} (ha : a < 2 ^ 31) (hb : b < 2 ^ 31) (h : (inR x (nI a) && inR y (nI b)) = true) : ∃ u v, u < a ∧ v < b ∧ x = nI u ∧ y = nI v := by
  rw [Bool.and_eq_true] at h
  obtain ⟨u, hu, e1⟩ := inR_of ha h.1
  obtain ⟨v, hv, e2⟩ := inR_of hb h.2
  exact ⟨u, v, hu, hv, e1, e2⟩
theorem st_eq {N : Nat} {S M : SX} (h : RA N S M) (x y : Int32) : xStV S x y = mStV M x y := by
  unfold xStV mStV
  rw [inW3, inW15]
  by_cases e : (inR x 4 && inR y 16) = true
  · obtain ⟨u, v, hu, hv, rfl, rfl⟩ := two_in (a := 4) (b := 16) (by decide) (by decide) e
    rw [if_pos e, if_pos e, nI_clamp (by omega), nI_clamp (by omega), h.1 u v hu hv]
  · rw [if_neg e, if_neg e]
theorem ca_eq {N : Nat} {S M : SX} (h : RA N S M) (x y : Int32) : xCaV S x y = mCaV M x y := by
  unfold xCaV mCaV
  rw [inW3, inW31]
  by_cases e : (inR x 4 && inR y 32) = true
  · obtain ⟨u, v, hu, hv, rfl, rfl⟩ := two_in (a := 4) (b := 32) (by decide) (by decide) e
    rw [if_pos e, if_pos e, nI_clamp (by omega), nI_clamp (by omega)]
    by_cases e2 : xHo S u (v / 2) = true
    · rw [if_pos e2, if_neg ((ra_held h hu (by omega)).mp e2), h.2.1 u v hu hv e2]
    · rw [if_neg e2, if_pos]
      rw [h.1 u (v / 2) hu (by omega), if_neg e2]
  · rw [if_neg e, if_neg e]
theorem me_eq {N : Nat} {S M : SX} (h : RA N S M) (x : Int32) : xMeV S x = mMeV M x := by
  unfold xMeV mMeV
  rw [inW31]
  by_cases e : inR x 32 = true
  · obtain ⟨u, hu, rfl⟩ := inR_of (n := 32) (by decide) e
    rw [if_pos e, if_pos e, nI_clamp (by omega), h.2.2.2.2.1 u hu]
  · rw [if_neg e, if_neg e]
theorem cn_eq {N : Nat} {S M : SX} (h : RA N S M) (x : Int32) : xCoV S x = mCoV M x := by
  unfold xCoV mCoV
  rw [inW4]
  by_cases e : inR x 5 = true
  · obtain ⟨u, hu, rfl⟩ := inR_of (n := 5) (by decide) e
    rw [if_pos e, if_pos e, nI_clamp (by omega), h.2.2.2.2.2.1 u hu]
  · rw [if_neg e, if_neg e]
theorem la_eq {N : Nat} {S M : SX} (h : RA N S M) (hN : N < 1000000) (x : Int32) : xLaV S x = mLaV M x := by
  unfold xLaV mLaV
  rw [inW7]
  obtain ⟨n, hn, t1, t2⟩ := h.2.2.2.2.2.2.1
  by_cases e : inR x 8 = true
  · obtain ⟨u, hu, rfl⟩ := inR_of (n := 8) (by decide) e
    rw [if_pos e, if_pos e, nI_clamp (by omega), t2 u hu, h.2.2.2.2.2.2.2.1.2.1, t1]
    by_cases e2 : u < n
    · rw [if_pos e2, if_neg (fun hx => by have := (nI_leI (by omega) (by omega)).mp hx; omega)]
    · rw [if_neg e2, if_pos (nI_le (by omega) (by omega))]
  · rw [if_neg e, if_neg e]
theorem bad_eq {x y : Int32} : (inW x 3 && inW y 31) = (inR x 4 && inR y 32) := by rw [inW3, inW31]
theorem bad_eq2 {x y : Int32} : (inW x 3 && inW y 15) = (inR x 4 && inR y 16) := by rw [inW3, inW15]
theorem mEm_4 (M : SX) (p b : Nat) : (mEm M p b).2 4 = M.2 4 := by
  unfold mEm mEmT
  split <;> rfl
theorem mEv_4 (p : Nat) : ∀ (n c : Nat) (M : SX), (mEvF p n c M).2 4 = M.2 4 := by
  intro n
  induction n with
  | zero => exact fun _ _ => rfl
  | succ n ih =>
    intro c M
    show (mEvF p n (c + 2) (mEv1 p c M)).2 4 = _
    rw [ih]
    unfold mEv1
    split
    · rfl
    · exact mEm_4 M p c
theorem mEo_4 (p b : Nat) : ∀ (n k : Nat) (M : SX), (mEoF p b n k M).2 = M.2 := by
  intro n
  induction n with
  | zero => exact fun _ _ => rfl
  | succ n ih =>
    intro k M
    show (mEoF p b n (k + 1) (if k = p then M else mSe M k b 0)).2 = _
    rw [ih]
    split <;> rfl
theorem mRl_4 (p b : Nat) : ∀ (n k : Nat) (M : SX), (mRlF p b n k M).2 = M.2 := by
  intro n
  induction n with
  | zero => exact fun _ _ => rfl
  | succ n ih =>
    intro k M
    show (mRlF p b n (k + 1) (mRl1 p b k M)).2 = _
    rw [ih]
    unfold mRl1
    split
    · rfl
    · split
      · rfl
      · split
        · rfl
        · split
          · rfl
          · split <;> rfl
theorem mUp_4 (p a : Nat) (w : Int32) : ∀ (n k : Nat) (M : SX), (mUpF p a w n k M).2 = M.2 := by
  intro n
  induction n with
  | zero => exact fun _ _ => rfl
  | succ n ih =>
    intro k M
    show (mUpF p a w n (k + 1) (mUp1 p a w k M)).2 = _
    rw [ih]
    unfold mUp1
    split
    · rfl
    · split <;> rfl
theorem mTr_4 (M : SX) (k p b : Nat) : (mTr M k p b).2 4 = M.2 4 := rfl
theorem mSe_2 (M : SX) (p b : Nat) (v : Int32) : (mSe M p b v).2 = M.2 := rfl
theorem mLoU_2 (T : SX) (p b : Nat) : (mLoU T p b).2 = T.2 := rfl
theorem mLoM_2 (f : Int32) (U : SX) (b : Nat) : (mLoM f U b).2 = U.2 := by
  unfold mLoM
  split <;> rfl
theorem mLo_4 (M : SX) (p b k : Nat) : (mLo M p b k).2 4 = M.2 4 := by
  have e1 : (mLoU (mLoT M p b k) p b).2 4 = M.2 4 := by rw [mLoU_2, mLoT, mTr_4, mEv_4]
  unfold mLo
  split
  · rw [mSe_2, mEo_4, e1]
  · unfold mLoE
    rw [mSe_2, mRl_4, mLoM_2, e1]
theorem mHi_4 (M : SX) (p b : Nat) : (mHi M p b).2 4 = M.2 4 := by
  unfold mHi
  split <;> rfl
theorem mRd_4 (M : SX) (p a : Nat) : (mRd M p a).2 4 = M.2 4 := by
  unfold mRd
  split
  · exact mHi_4 M p _
  · rw [mLo_4, mHi_4]
theorem mWrE_4 (V : SX) (p a : Nat) (w d : Int32) : (mWrE V p a w d).2 = V.2 := rfl
theorem mWr_4 (M : SX) (p a : Nat) (w : Int32) : (mWr M p a w).2 4 = M.2 4 := by
  have e1 : (mWrB M p a).2 4 = M.2 4 := by
    unfold mWrB
    split
    · exact mHi_4 M p _
    · rw [mLo_4, mHi_4]
  unfold mWr mWrT
  split
  · split
    · rw [mWrE_4, mUp_4, mTr_4, e1]
    · rw [mWrE_4, mEo_4, mTr_4, e1]
  · rw [mWrE_4, e1]
theorem ch_v {x : Int32} (h : inR x 4 = true) : ¬ x < 0 ∧ x < 4 ∧ x ≤ 3 ∧ (x = 0 ∨ x = 1 ∨ x = 2 ∨ x = 3) := by
  obtain ⟨u, hu, rfl⟩ := inR_of (n := 4) (by decide) h
  have : u = 0 ∨ u = 1 ∨ u = 2 ∨ u = 3 := by omega
  rcases this with rfl | rfl | rfl | rfl <;> decide
theorem ch_b {x : Int32} (h : ¬ inR x 4 = true) : (x < 0 ∨ ¬ x < 4) ∧ (x < 0 ∨ ¬ x ≤ 3) := by
  rcases pk_ix x (n := 4) (by decide) with h1 | h1 | ⟨u, hu, rfl⟩
  · exact ⟨Or.inl h1, Or.inl h1⟩
  · have h2 : (4 : Int32) ≤ x := h1
    refine ⟨Or.inr (fun hx => ?_), Or.inr (fun hx => ?_)⟩
    · rw [Int32.lt_iff_toInt_lt] at hx
      rw [Int32.le_iff_toInt_le] at h2
      omega
    · rw [Int32.le_iff_toInt_le] at hx h2
      have e3 : (3 : Int32).toInt = 3 := by decide
      have e4 : (4 : Int32).toInt = 4 := by decide
      omega
  · exact absurd (inR_t (n := 4) hu (by decide)) h
theorem rr_new : RR 0 (xSo ((fun _ _ => 0, fun _ => 0) : SX) 0) (zF ((fun _ _ => 0, fun _ => 0) : SX) 0 0) := by
  have nh : ∀ p b, ¬ xHo (xSo ((fun _ _ => 0, fun _ => 0) : SX) 0) p b = true := fun p b hx => (xHo_t.mp hx).1 rfl
  exact ⟨⟨fun p b _ _ => by rw [if_neg (nh p b)]; rfl, fun p a _ _ hx => absurd hx (nh p _), fun i hi => ⟨0, by omega, rfl, fun hx => absurd rfl hx⟩, fun i hi => Or.inl rfl, fun a ha => rfl, fun k hk => rfl, ⟨0, Nat.le_refl 0, rfl, fun k hk => rfl⟩, ⟨rfl, rfl, rfl, rfl⟩, Or.inl rfl⟩, fun _ p q b _ _ _ _ n1 => absurd rfl n1⟩
end
section
/-! ===== BEGIN words of one list among another's, by their places ===== -/
theorem goodIn_r {big : List Cond} (ws : List Cond) (ps : List Nat) (hp : ws = ps.filterMap (fun i => big[i]?)) (h : ws.all goodWord = true) : GoodIn big ws := by
  intro w hw
  have h1 := List.all_eq_true.mp h w hw
  rw [hp] at hw
  obtain ⟨i, -, hi⟩ := List.mem_filterMap.mp hw
  have hm : w ∈ big := by first | exact List.mem_of_getElem? hi | exact List.getElem?_mem hi
  exact ⟨hm, good_of_word h1⟩
theorem goodIn_app {big a b : List Cond} (ha : GoodIn big a) (hb : GoodIn big b) : GoodIn big (a ++ b) := fun w h => (List.mem_append.mp h).elim (ha w) (hb w)
theorem goodIn_ca {big a b : List Cond} {c : Cond} (ha : GoodIn big (c :: a)) (hb : GoodIn big b) : GoodIn big (c :: (a ++ b)) := fun w h => (List.mem_cons.mp h).elim (fun e => ha w (List.mem_cons.mpr (Or.inl e))) (fun h => (List.mem_append.mp h).elim (fun h => ha w (List.mem_cons.mpr (Or.inr h))) (hb w))
theorem goodIn_sub {big ws : List Cond} (hm : ∀ w ∈ ws, w ∈ big) (h : ws.all goodWord = true) : GoodIn big ws := fun w hw => ⟨hm w hw, good_of_word (List.all_eq_true.mp h w hw)⟩
/-! ===== END ===== -/

/-! ===== BEGIN exceptions that leave a method, and their catching by the caller (launches without stack traces) ===== -/
section VXA
/-! The laws vx_back, vx_callV, vx_callS, vx_callSW, vx_throw0, vx_throwS follow proofs of the library, with one case more: JvmDerived/Free/Laws.lean (Back.of_free), Shelf42/LK1.lean (callV, callS), Shelf/KitTraced.lean (throwNew0V, throwNewS). -/
/-- where a method has thrown q: the class by its name, the cell, what was written, the world -/
def vx_T (XC : String → State → State → Prop) (st : State) (q : Addr) (t : State) (mc ms : Nat) (free : Addr → Prop) : Prop :=
  ∃ (E : String) (ce : Cell) (L : List Loc), XC E st t ∧ t.heap[q]? = some ce ∧ ce.vm = .none ∧ st.vm.findClass E = some ce.cls ∧ st.WarmedH t.vm ∧ st.sameButNew ({ t with vm := st.vm } : State) L mc ms ∧ ∀ z ∈ L, free z.base
def vx_Q (Qc : Array Value → State → Outcome → State → Prop) (XC : String → State → State → Prop) (mc ms : Nat) (free : Addr → Prop) : Array Value → State → Outcome → State → Prop := fun a st o t =>
  (Qc a st o t ∧ ∃ L, FrameEnd st o t L mc ms ∧ ∀ q ∈ L, free q.base) ∨ ∃ q, o = .threw q ∧ vx_T XC st q t mc ms free
/-- a callee that returns or throws -/
def vx_Met (l : Launch) (y : MethodName) (ws : List Cond) (rm : Room) (Pc : Array Value → State → Prop) (Qc : Array Value → State → Outcome → State → Prop) (XC : String → State → State → Prop) (mc ms : Nat) (free : Addr → Prop) : Prop :=
  MetFree l y (headSpec ws rm) Pc (fun _ _ _ _ _ => True) (vx_Q Qc XC mc ms free)
def vx_Post (XC : String → State → State → Prop) (mc ms : Nat) (free : Addr → Prop) : Pt → Array Value → Addr → Pt → Prop := fun A a q B =>
  ∃ (g : JFrame) (mk : MethodId) (t : State) (L : List Loc) (E : String) (ce : Cell), B.U.heap = t.heap ∧ B.U.vm = t.vm ∧ XC E (A.U.calling g mk a) t ∧ t.heap[q]? = some ce ∧ ce.vm = .none ∧ A.U.vm.findClass E = some ce.cls ∧ B.locs = A.locs ++ L ∧ (∀ z ∈ L, free z.base) ∧ B.cells = A.cells + mc ∧ B.slots = A.slots + ms
def vx_Back (l : Launch) (R : Room) (p : Program) (e : Env) (below : List Frame) (s : State) (sargs : Array Value) (y : MethodName) (len W9 : Nat)
    (Pre : Pt → Array Value → Prop) (Post : Pt → Array Value → Option Value → Pt → Prop) (PostX : Pt → Array Value → Addr → Pt → Prop) : Prop :=
  ∀ (m : MethodId) (meth : Method) (c : Code) (A : Pt) (g : JFrame) (ig : Instr) (mk : MethodId) (a : Array Value),
    Stand p l e R s m sargs below meth c A.U A.locs A.cells A.slots → g.method = m → g.locals.size = c.maxLocals → decode c.code g.pc = .ok (ig, len) →
    2 * g.monitorRoom + (g.stack.map fun v => v.category).sum ≤ W9 → A.U.methodNamed? y = some mk → Pre A a →
    (∃ (v : Option Value) (B : Pt), Stand p l e R s m sargs below meth c B.U B.locs B.cells B.slots ∧ Post A a v B ∧
      Steps p.tables e below (doInvoke e (A.U.setTop g) [] mk a).1 (B.U.setTop { g with pc := g.pc + len, stack := v.toList ++ g.stack })) ∨
    (∃ (q : Addr) (B : Pt), Stand p l e R s m sargs below meth c B.U B.locs B.cells B.slots ∧ PostX A a q B ∧
      Steps p.tables e below (doInvoke e (A.U.setTop g) [] mk a).1 ((B.U.setTop g).pushFrame (.throwing q)))
section Payer
variable {l : Launch} {R : Room} {p : Program} {e : Env} {below : List Frame} {s : State} {sargs : Array Value} {y : MethodName} {len W9 : Nat}
theorem vx_back {ws : List Cond} {rm : Room} {Pc : Array Value → State → Prop} {Qc : Array Value → State → Outcome → State → Prop} {XC : String → State → State → Prop} {mc ms : Nat} {free : Addr → Prop} {bytes : ByteArray} {maxL : Nat} {ret : Option FieldType}
    (hM : vx_Met l y ws rm Pc Qc XC mc ms free) (hblind : FrameBlind Pc) (hrc : rm.cells = mc) (hrs : rm.slots = ms)
    (hframes : rm.frames + 1 ≤ R.frames) (hlocals : W9 + (maxL + 11) + rm.locals ≤ R.locals)
    (hws : ∀ w ∈ ws, ∀ a' U, s.WarmedH U.vm → w.before a' U = true) (hcode : Cond.code y bytes maxL ret ∈ ws) (hinit : ∀ a' U, s.WarmedH U.vm → (Cond.initialized y.cls).before a' U = true) :
    vx_Back l R p e below s sargs y len W9 (PreOf R mc ms Pc) (PostOf Qc mc ms free) (vx_Post XC mc ms free) := by
  intro m meth c A g ig mk a X hg hsize hdg hW hn hp
  have h1 : (headSpec ws rm).pre.before a A.U = true := atoms_intro fun w hw => hws w hw _ _ X.warmed
  have h2 : (Cond.code y bytes maxL ret).before a A.U = true := hws _ hcode _ _ X.warmed
  have h3 : (Cond.initialized y.cls).before a A.U = true := hinit _ _ X.warmed
  have h4 : A.cells + (headSpec ws rm).room.cells ≤ R.cells := by rw [show (headSpec ws rm).room.cells = mc from hrc]; exact hp.1
  have h5 : A.slots + (headSpec ws rm).room.slots ≤ R.slots := by rw [show (headSpec ws rm).room.slots = ms from hrs]; exact hp.2.1
  have hPc : Pc a (A.U.calling g mk a) := hblind _ _ _ _ hp.2.2
  obtain ⟨U, Ls, c0, s0⟩ := A
  dsimp only [Pt.U, Pt.locs, Pt.cells, Pt.slots] at h1 h2 h3 h4 h5 X hn hPc ⊢
  obtain ⟨methY, cY, hmY, hcY, -, hlY, -, -, -, -⟩ := Cond.code_spec hn h2
  obtain ⟨kY, hkY, -⟩ := className_of_methodNamed hn
  have hinitY : kY.init = .initialized := Cond.initialized_spec (findClass_of_methodNamed hn) hkY h3
  have h : At U g.method c below := by rw [hg]; exact X.here
  have hlocals9 : W9 + (maxL + 11) + (headSpec ws rm).room.locals ≤ R.locals := hlocals
  have happ : (headSpec ws rm).appliesLoose y e.platform (U.calling g mk a) = true :=
    Spec.appliesLoose_calling (g := g) h hdg hn hkY hinitY
      (X.room_calling (g := g) (R' := (headSpec ws rm).room) hsize hmY hcY hframes (by rw [hlY]; omega) h4 h5) h1
  obtain ⟨mid, hmid⟩ := h.above
  have hfr : (U.setTop g).frames = (.java g :: mid) ++ below := by rw [State.frames_setTop' g h.top, hmid]; rfl
  obtain ⟨o, s₂, hsteps, -, hend, hq⟩ := Steps.callFree hM p X.admits X.cas X.clock (acts := []) hfr happ hPc trivial
  have hq' : vx_Q Qc XC mc ms free a (U.calling g mk a) o s₂ := hq
  rw [State.frames_setTop' g h.top] at hend
  obtain ⟨g₀, hg0⟩ := Option.isSome_iff_exists.mp h.top
  obtain ⟨r, hr⟩ := State.topJava?_eq_some.mp hg0
  have hr' : (({ U with heap := s₂.heap, slotsUsed := s₂.slotsUsed } : State).setVm s₂.vm).frames = .java g₀ :: r := hr
  rcases hq' with ⟨hqc, L, hfe, hL⟩ | ⟨q, rfl, E, ce, L, hx, hce, hcv, hcl, hW₂, hsm, hL⟩
  · obtain ⟨⟨v, rfl⟩, hW₂, e2, q2, q3, q4, q5, q6⟩ := id hfe
    have e3 : s₂ = ({ (U.calling g mk a).setFrames s₂.frames with heap := s₂.heap, slotsUsed := s₂.slotsUsed } : State).setVm s₂.vm := by
      have : s₂ = ({ s₂ with vm := (U.calling g mk a).vm } : State).setVm s₂.vm := rfl
      rw [e2] at this
      exact this
    obtain ⟨c₂, i₂, len₂, hc₂, hd₂, hf₂⟩ := hend
    have hW' : U.WarmedH s₂.vm := hW₂
    have hcc : c₂ = c := by
      have h1 : s₂.code? g.method = U.code? g.method := by
        rw [State.code?_eq, State.code?_eq, hW'.alike.method?]
      exact Option.some.inj (hc₂.symm.trans (h1.trans h.code))
    subst hcc
    have hlen : len₂ = len := by rw [hdg] at hd₂; cases hd₂; rfl
    subst hlen
    have hs₂ : s₂ = (({ U with heap := s₂.heap, slotsUsed := s₂.slotsUsed } : State).setVm s₂.vm).setTop { g with pc := g.pc + len₂, stack := v.toList ++ g.stack } := by
      refine e3.trans ?_
      rw [hf₂, State.calling_eq h.top, State.setFrames_setFrames, State.setTop_of_frames _ hr', hr]
      rfl
    have hsame : U.sameButNew ({ U with heap := s₂.heap, slotsUsed := s₂.slotsUsed } : State) L mc ms := by
      refine ⟨?_, q2, q3, q4, q5, q6⟩
      obtain ⟨t, ht, -⟩ := State.frames_cons hr
      show ({ U with heap := s₂.heap, slotsUsed := s₂.slotsUsed } : State) = { U.setFrames U.frames with heap := s₂.heap, slotsUsed := s₂.slotsUsed }
      rw [State.setFrames_self ht]
    subst hg
    refine Or.inl ⟨v, ⟨(({ U with heap := s₂.heap, slotsUsed := s₂.slotsUsed } : State).setVm s₂.vm), Ls ++ L, c0 + mc, s0 + ms⟩,
      ⟨X.admits, X.cas, X.clock, X.frames, X.room, X.hears, X.method, X.code, (X.here.setHeapUsed s₂.heap s₂.slotsUsed).setVm hW'.alike, X.tail, State.WarmedH.trans X.warmed hW', X.limits, X.bytes, X.same.trans (hsame.setVm s.vm)⟩,
      ⟨g, mk, s₂, L, rfl, rfl, hqc, rfl, hL, rfl, rfl⟩, ?_⟩
    show Steps p.tables e below _ ((({ U with heap := s₂.heap, slotsUsed := s₂.slotsUsed } : State).setVm s₂.vm).setTop { g with pc := g.pc + len₂, stack := v.toList ++ g.stack })
    rw [← hs₂]
    exact hsteps
  · obtain ⟨e2, q2, q3, q4, q5, q6⟩ := id hsm
    have e3 : s₂ = ({ (U.calling g mk a).setFrames s₂.frames with heap := s₂.heap, slotsUsed := s₂.slotsUsed } : State).setVm s₂.vm := by
      have : s₂ = ({ s₂ with vm := (U.calling g mk a).vm } : State).setVm s₂.vm := rfl
      rw [e2] at this
      exact this
    have hf₂ : s₂.frames = .throwing q :: .java g :: U.frames.tail := hend
    have hW' : U.WarmedH s₂.vm := hW₂
    have hs₂ : s₂ = ((({ U with heap := s₂.heap, slotsUsed := s₂.slotsUsed } : State).setVm s₂.vm).setTop g).pushFrame (.throwing q) := by
      refine e3.trans ?_
      rw [hf₂, State.calling_eq h.top, State.setFrames_setFrames, State.pushFrame, State.frames_setTop _ hr', State.setTop_of_frames _ hr', State.setFrames_setFrames, hr]
      rfl
    have hsame : U.sameButNew ({ U with heap := s₂.heap, slotsUsed := s₂.slotsUsed } : State) L mc ms := by
      refine ⟨?_, q2, q3, q4, q5, q6⟩
      obtain ⟨t, ht, -⟩ := State.frames_cons hr
      show ({ U with heap := s₂.heap, slotsUsed := s₂.slotsUsed } : State) = { U.setFrames U.frames with heap := s₂.heap, slotsUsed := s₂.slotsUsed }
      rw [State.setFrames_self ht]
    subst hg
    refine Or.inr ⟨q, ⟨(({ U with heap := s₂.heap, slotsUsed := s₂.slotsUsed } : State).setVm s₂.vm), Ls ++ L, c0 + mc, s0 + ms⟩,
      ⟨X.admits, X.cas, X.clock, X.frames, X.room, X.hears, X.method, X.code, (X.here.setHeapUsed s₂.heap s₂.slotsUsed).setVm hW'.alike, X.tail, State.WarmedH.trans X.warmed hW', X.limits, X.bytes, X.same.trans (hsame.setVm s.vm)⟩,
      ⟨g, mk, s₂, L, E, ce, rfl, rfl, hx, hce, hcv, hcl, rfl, hL, rfl, rfl⟩, ?_⟩
    show Steps p.tables e below _ (((({ U with heap := s₂.heap, slotsUsed := s₂.slotsUsed } : State).setVm s₂.vm).setTop g).pushFrame (.throwing q))
    rw [← hs₂]
    exact hsteps
end Payer
section Calls
variable {p : Program} {l : Launch} {e : Env} {R : Room} {s : State} {m : MethodId} {args : Array Value} {below : List Frame} {meth : Method} {c : Code} {T : State} {locs : List Loc} {cells slots : Nat}
theorem vx_callV (X : Stand p l e R s m args below meth c T locs cells slots) (hexec : p.tables.exec = Jvm.exec) {own C : String} {index : Nat} {y : MethodName} {bytes : ByteArray} {maxL : Nat} {ret : Option FieldType}
    (hown : s.vm.findClass own = some m.cls) (hlink : (Cond.methodLink own index y).before args s = true) (hinst : (Cond.instanceMethod y).before args s = true) (hsel : (Cond.selects C y y).before args s = true)
    (hcode : (Cond.code y bytes maxL ret).before args s = true) (hy : y.cls ≠ "java/lang/invoke/MethodHandle" ∧ y.cls ≠ "java/lang/invoke/VarHandle")
    {W9 : Nat} {Pre : Pt → Array Value → Prop} {Post : Pt → Array Value → Option Value → Pt → Prop} {PostX : Pt → Array Value → Addr → Pt → Prop} (hK : vx_Back l R p e below s args y 3 W9 Pre Post PostX)
    {b : Addr} {cellB : Cell} (hcell : T.heap[b]? = some cellB) (hobj : cellB.vm.isStatics = false) (hcls : s.vm.findClass C = some cellB.cls)
    {g : JFrame} (hg : g.method = m) (hsize : g.locals.size = c.maxLocals) {argsL rest : List Value} (hlen : ∀ sig, parseMethodDescriptor y.desc = some sig → argsL.length = sig.parameters.length)
    (hstack : g.stack = argsL.reverse ++ .ref b :: rest) (hW : 2 * g.monitorRoom + (rest.map fun v => v.category).sum ≤ W9) (hdg : decode c.code g.pc = .ok (.invokevirtual index, 3))
    (hpre : ∀ vm₁, s.WarmedH vm₁ → Pre ⟨T.setVm vm₁, locs, cells, slots⟩ (Value.ref b :: argsL).toArray) :
    (∃ (v : Option Value) (vm₁ : Vm) (B : Pt), s.WarmedH vm₁ ∧ Stand p l e R s m args below meth c B.U B.locs B.cells B.slots ∧ Post ⟨T.setVm vm₁, locs, cells, slots⟩ (Value.ref b :: argsL).toArray v B ∧
      ∀ target, Steps p.tables e below (B.U.setTop { g with pc := g.pc + 3, stack := v.toList ++ rest }) target → Steps p.tables e below (T.setTop g) target) ∨
    (∃ (q : Addr) (vm₁ : Vm) (B : Pt), s.WarmedH vm₁ ∧ Stand p l e R s m args below meth c B.U B.locs B.cells B.slots ∧ PostX ⟨T.setVm vm₁, locs, cells, slots⟩ (Value.ref b :: argsL).toArray q B ∧
      Steps p.tables e below (T.setTop g) ((B.U.setTop { g with stack := rest }).pushFrame (.throwing q))) := by
  obtain ⟨mk, methM, hnamed, hmethM, hstM, habM⟩ := Cond.instanceMethod_spec hinst
  obtain ⟨methM', cM, hmethM', -, -, -, -, -, -, hsigM⟩ := Cond.code_spec hnamed hcode
  cases hmethM.symm.trans hmethM'
  obtain ⟨c2, r2, m2, q1, q2, q3, q4, kP, hkP, hkPi⟩ := Cond.selects_spec hsel
  cases hcls.symm.trans q1
  cases (State.methodFound?_of_named hnamed hy).symm.trans q2
  cases hnamed.symm.trans q3
  have hselP : selectMethod e.platform s.vm cellB.cls mk = .method mk := by rw [Launch.admits_selectMethod X.admits]; exact q4
  obtain ⟨vm₁, X₁, hstep₁⟩ := X.invokevirtual hexec hown hlink hnamed hmethM hstM hkP hkPi hy (a := b) (cell := cellB) hcell
    (fun z h => by rw [h] at hobj; cases hobj) hselP hmethM habM hkP hkPi (g := g) hg (argsL := argsL) (rest := rest) (hlen _ hsigM) hstack hdg
  rcases hK m meth c ⟨T.setVm vm₁, locs, cells, slots⟩ { g with stack := rest } (.invokevirtual index) mk (Value.ref b :: argsL).toArray X₁ hg hsize hdg hW (X₁.named hnamed) (hpre vm₁ X₁.warmed) with ⟨v, B, X', hpost, hsteps⟩ | ⟨q, B, X', hpost, hsteps⟩
  · exact Or.inl ⟨v, vm₁, B, X₁.warmed, X', hpost, fun target h => hstep₁ _ fun acts => by rw [doInvoke_state]; exact hsteps.trans h⟩
  · exact Or.inr ⟨q, vm₁, B, X₁.warmed, X', hpost, hstep₁ _ fun acts => by rw [doInvoke_state]; exact hsteps⟩
theorem vx_callS (X : Stand p l e R s m args below meth c T locs cells slots) (hexec : p.tables.exec = Jvm.exec) {own : String} {index : Nat} {y : MethodName} {bytes : ByteArray} {maxL : Nat} {ret : Option FieldType}
    (hown : s.vm.findClass own = some m.cls) (hlink : (Cond.methodLink own index y).before args s = true) (hstat : (Cond.static y).before args s = true) (hinit : (Cond.initialized y.cls).before args s = true)
    (hcode : (Cond.code y bytes maxL ret).before args s = true) (hy : y.cls ≠ "java/lang/invoke/MethodHandle" ∧ y.cls ≠ "java/lang/invoke/VarHandle")
    {W9 : Nat} {Pre : Pt → Array Value → Prop} {Post : Pt → Array Value → Option Value → Pt → Prop} {PostX : Pt → Array Value → Addr → Pt → Prop} (hK : vx_Back l R p e below s args y 3 W9 Pre Post PostX)
    {g : JFrame} (hg : g.method = m) (hsize : g.locals.size = c.maxLocals) {argsL rest : List Value} (hlen : ∀ sig, parseMethodDescriptor y.desc = some sig → argsL.length = sig.parameters.length)
    (hstack : g.stack = argsL.reverse ++ rest) (hW : 2 * g.monitorRoom + (rest.map fun v => v.category).sum ≤ W9) (hdg : decode c.code g.pc = .ok (.invokestatic index, 3))
    (hpre : ∀ vm₁, s.WarmedH vm₁ → Pre ⟨T.setVm vm₁, locs, cells, slots⟩ argsL.toArray) :
    (∃ (v : Option Value) (vm₁ : Vm) (B : Pt), s.WarmedH vm₁ ∧ Stand p l e R s m args below meth c B.U B.locs B.cells B.slots ∧ Post ⟨T.setVm vm₁, locs, cells, slots⟩ argsL.toArray v B ∧
      ∀ target, Steps p.tables e below (B.U.setTop { g with pc := g.pc + 3, stack := v.toList ++ rest }) target → Steps p.tables e below (T.setTop g) target) ∨
    (∃ (q : Addr) (vm₁ : Vm) (B : Pt), s.WarmedH vm₁ ∧ Stand p l e R s m args below meth c B.U B.locs B.cells B.slots ∧ PostX ⟨T.setVm vm₁, locs, cells, slots⟩ argsL.toArray q B ∧
      Steps p.tables e below (T.setTop g) ((B.U.setTop { g with stack := rest }).pushFrame (.throwing q))) := by
  obtain ⟨mk, hnamed⟩ := Cond.code_named hcode
  obtain ⟨methM, cM, hmethM, -, -, -, -, -, -, hsigM⟩ := Cond.code_spec hnamed hcode
  have hstatic : methM.isStatic = true := Cond.static_spec hnamed hmethM hstat
  obtain ⟨kP, hkP, -⟩ := className_of_methodNamed hnamed
  have hinitP : kP.init = .initialized := Cond.initialized_spec (findClass_of_methodNamed hnamed) hkP hinit
  obtain ⟨vm₁, X₁, hstep₁⟩ := X.invokestatic hexec hown hlink hnamed hmethM hstatic hkP hinitP hy (g := g) hg (argsL := argsL) (rest := rest) (hlen _ hsigM) hstack hdg
  rcases hK m meth c ⟨T.setVm vm₁, locs, cells, slots⟩ { g with stack := rest } (.invokestatic index) mk argsL.toArray X₁ hg hsize hdg hW (X₁.named hnamed) (hpre vm₁ X₁.warmed) with ⟨v, B, X', hpost, hsteps⟩ | ⟨q, B, X', hpost, hsteps⟩
  · exact Or.inl ⟨v, vm₁, B, X₁.warmed, X', hpost, fun target h => hstep₁ _ fun acts => by rw [doInvoke_state]; exact hsteps.trans h⟩
  · exact Or.inr ⟨q, vm₁, B, X₁.warmed, X', hpost, hstep₁ _ fun acts => by rw [doInvoke_state]; exact hsteps⟩
end Calls
theorem vx_cls {s : State} {T : State} {vm₁ : Vm} {E : String} {k : ClassId} (hW : s.WarmedH vm₁) (h : (T.setVm vm₁).vm.findClass E = some k) : s.vm.findClass E = some k := by
  have h1 : vm₁.findClass E = some k := h
  rw [hW.alike.findClass] at h1
  exact h1
/-- the method's frame g, with q thrown over it -/
def vx_W (p : Program) (l : Launch) (e : Env) (R : Room) (s : State) (m : MethodId) (args : Array Value) (below : List Frame) (meth : Method) (c : Code) (H : Heap) (locs : List Loc) (cells slots : Nat) (Q : State → Prop) (g : JFrame) (q : Addr) : Prop :=
  ∀ T : State, T.heap = H → Stand p l e R s m args below meth c T locs cells slots → ∃ t, Steps p.tables e below ((T.setTop g).pushFrame (.throwing q)) t ∧ Q t
def vx_Run (p : Program) (l : Launch) (e : Env) (R : Room) (s : State) (m : MethodId) (args : Array Value) (below : List Frame) (meth : Method) (c : Code) (H : Heap) (locs : List Loc) (cells slots mc ms : Nat) (g : JFrame) (rest : List Value) (Qa : State → Outcome → State → Prop) (XC : String → State → State → Prop) (free : Addr → Prop) : Prop :=
  ∀ T : State, T.heap = H → Stand p l e R s m args below meth c T locs cells slots →
    (∃ (v : Option Value) (st₀ t T' : State) (L : List Loc), st₀.heap = H ∧ Stand p l e R s m args below meth c T' (locs ++ L) (cells + mc) (slots + ms) ∧ (∀ q ∈ L, free q.base) ∧ T'.heap = t.heap ∧ T'.vm = t.vm ∧ Qa st₀ (.returned v) t ∧
      Goes p e below T g T' { g with pc := g.pc + 3, stack := v.toList ++ rest }) ∨
    (∃ (q : Addr) (st₀ t T' : State) (L : List Loc) (E : String) (ce : Cell), st₀.heap = H ∧ Stand p l e R s m args below meth c T' (locs ++ L) (cells + mc) (slots + ms) ∧ (∀ z ∈ L, free z.base) ∧ T'.heap = t.heap ∧ T'.vm = t.vm ∧ XC E st₀ t ∧ t.heap[q]? = some ce ∧ ce.vm = .none ∧ s.vm.findClass E = some ce.cls ∧
      Steps p.tables e below (T.setTop g) ((T'.setTop { g with stack := rest }).pushFrame (.throwing q)))
def vx_X {S : Type} (px : S → Prop) (B : String → S → State → Prop) (A : Nat → Prop) : String → State → State → Prop := fun E st t => ∃ u : S, px u ∧ B E u t ∧ va_F A st t
section Runs
variable {p : Program} {l : Launch} {e : Env} {R : Room} {s : State} {m : MethodId} {args : Array Value} {below : List Frame} {meth : Method} {c : Code} {H : Heap} {locs : List Loc} {cells slots : Nat}
variable {y : MethodName} {bytes cc : ByteArray} {maxL nL mc ms n index : Nat} {ret : Option FieldType} {ws : List Cond} {rm : Room} {Pc : Array Value → State → Prop} {Qc : Array Value → State → Outcome → State → Prop} {XC : String → State → State → Prop} {free : Addr → Prop} {Ts : List Cond} {own C : String} {b : Addr} {As rest : List Value} {g : JFrame}
theorem vx_callBack (cb : CallB R s args own index y bytes maxL ret ws rm mc ms n) (hM : vx_Met l y ws rm Pc Qc XC mc ms free) (hbl : FrameBlind Pc) : vx_Back l R p e below s args y 3 8 (PreOf R mc ms Pc) (PostOf Qc mc ms free) (vx_Post XC mc ms free) := by
  obtain ⟨hrc, hrs, hfr, hlo, hws, hcw, -, hini, -⟩ := cb
  exact vx_back (bytes := bytes) (maxL := maxL) (ret := ret) hM hbl hrc hrs hfr hlo hws hcw (fun a' U hW => word_at hW (Or.inl (by first | rfl | simp [Cond.onTables, Cond.keeps, Cond.steady])) hini)
theorem vx_runV (S : CallFix p m c cc nL s args Ts own) (hM : vx_Met l y ws rm Pc Qc XC mc ms free) (cw : CallW R s args own C index y bytes maxL ret ws rm mc ms n) (hp : PreV s H C b Pc As)
    (hg : g.method = m) (hn : As.length = n) (hsize : g.locals.size = nL) (hstack : g.stack = As.reverse ++ .ref b :: rest) (hW : 2 * g.monitorRoom + (rest.map fun v => v.category).sum ≤ 8) (hdg : decode cc g.pc = .ok (.invokevirtual index, 3)) (hf : cells + mc ≤ R.cells ∧ slots + ms ≤ R.slots) :
    vx_Run p l e R s m args below meth c H locs cells slots mc ms g rest (Qc (Value.ref b :: As).toArray) XC free := by
  have hK : vx_Back l R p e below s args y 3 8 (PreOf R mc ms Pc) (PostOf Qc mc ms free) (vx_Post XC mc ms free) := vx_callBack cw.1 hM hp.1
  obtain ⟨⟨-, -, -, -, -, -, hcode, -, hy, hlen, hl⟩, hin, hse⟩ := cw
  obtain ⟨hx, hb, hml, ho, -⟩ := S
  obtain ⟨-, ⟨cellB, hcB, hoB, hclB⟩, hPc⟩ := hp
  intro T hT X
  rcases vx_callV X hx (C := C) (bytes := bytes) (maxL := maxL) (ret := ret) ho hl hin hse hcode hy hK (by rw [hT]; exact hcB) hoB hclB hg (hsize.trans hml.symm) (argsL := As) (rest := rest) (fun sig h => hn.trans (hlen sig h)) hstack hW (by rw [hb]; exact hdg)
    (fun vm₁ hW₁ => ⟨hf.1, hf.2, hPc (T.setVm vm₁) hT hW₁⟩) with ⟨v, vm₁, ⟨U', l2, c2, s2⟩, hW₁, X', ⟨g', mk, t, L, e1, e2, hq, h1, hL, h2, h3⟩, st⟩ | ⟨q, vm₁, ⟨U', l2, c2, s2⟩, hW₁, X', ⟨g', mk, t, L, E, ce, e1, e2, hq, hce, hcv, hcl, h1, hL, h2, h3⟩, st⟩
  · dsimp only [Pt.U, Pt.locs, Pt.cells, Pt.slots] at X' e1 e2 h1 h2 h3 st
    subst h1; subst h2; subst h3
    exact Or.inl ⟨v, (T.setVm vm₁).calling g' mk (Value.ref b :: As).toArray, t, U', L, hT, X', hL, e1, e2, hq, st⟩
  · dsimp only [Pt.U, Pt.locs, Pt.cells, Pt.slots] at X' e1 e2 h1 h2 h3 st hcl
    subst h1; subst h2; subst h3
    exact Or.inr ⟨q, (T.setVm vm₁).calling g' mk (Value.ref b :: As).toArray, t, U', L, E, ce, hT, X', hL, e1, e2, hq, hce, hcv, vx_cls hW₁ hcl, st⟩
theorem vx_runS (S : CallFix p m c cc nL s args Ts own) (hM : vx_Met l y ws rm Pc Qc XC mc ms free) (cw : CallB R s args own index y bytes maxL ret ws rm mc ms n ∧ (Cond.static y).before args s = true) (hp : PreS s H Pc As)
    (hg : g.method = m) (hn : As.length = n) (hsize : g.locals.size = nL) (hstack : g.stack = As.reverse ++ rest) (hW : 2 * g.monitorRoom + (rest.map fun v => v.category).sum ≤ 8) (hdg : decode cc g.pc = .ok (.invokestatic index, 3)) (hf : cells + mc ≤ R.cells ∧ slots + ms ≤ R.slots) :
    vx_Run p l e R s m args below meth c H locs cells slots mc ms g rest (Qc As.toArray) XC free := by
  have hK : vx_Back l R p e below s args y 3 8 (PreOf R mc ms Pc) (PostOf Qc mc ms free) (vx_Post XC mc ms free) := vx_callBack cw.1 hM hp.1
  obtain ⟨⟨-, -, -, -, -, -, hcode, hini, hy, hlen, hl⟩, hstt⟩ := cw
  obtain ⟨hx, hb, hml, ho, -⟩ := S
  intro T hT X
  rcases vx_callS X hx (bytes := bytes) (maxL := maxL) (ret := ret) ho hl hstt hini hcode hy hK hg (hsize.trans hml.symm) (argsL := As) (rest := rest) (fun sig h => hn.trans (hlen sig h)) hstack hW (by rw [hb]; exact hdg)
    (fun vm₁ hW₁ => ⟨hf.1, hf.2, hp.2 (T.setVm vm₁) hT hW₁⟩) with ⟨v, vm₁, ⟨U', l2, c2, s2⟩, hW₁, X', ⟨g', mk, t, L, e1, e2, hq, h1, hL, h2, h3⟩, st⟩ | ⟨q, vm₁, ⟨U', l2, c2, s2⟩, hW₁, X', ⟨g', mk, t, L, E, ce, e1, e2, hq, hce, hcv, hcl, h1, hL, h2, h3⟩, st⟩
  · dsimp only [Pt.U, Pt.locs, Pt.cells, Pt.slots] at X' e1 e2 h1 h2 h3 st
    subst h1; subst h2; subst h3
    exact Or.inl ⟨v, (T.setVm vm₁).calling g' mk As.toArray, t, U', L, hT, X', hL, e1, e2, hq, st⟩
  · dsimp only [Pt.U, Pt.locs, Pt.cells, Pt.slots] at X' e1 e2 h1 h2 h3 st hcl
    subst h1; subst h2; subst h3
    exact Or.inr ⟨q, (T.setVm vm₁).calling g' mk As.toArray, t, U', L, E, ce, hT, X', hL, e1, e2, hq, hce, hcv, vx_cls hW₁ hcl, st⟩
end Runs
section Rows
variable {p : Program} {l : Launch} {e : Env} {R : Room} {s : State} {m : MethodId} {args : Array Value} {below : List Frame} {meth : Method} {c : Code} {H : Heap} {locs : List Loc} {cells slots : Nat} {Q : State → Prop}
variable {mc ms : Nat} {free : Addr → Prop} {A0 A1 : Nat → Prop} {H0 : Heap} {a : Array Value} {pc : Nat} {ls : Array Slot} {st0 rest : List Value}
theorem vx_keep {st₀ t T' : State} {L : List Loc} (h0 : st₀.heap = H) (e1 : T'.heap = t.heap) (hS : va_S A0 H0 H locs) (hA : ∀ q, q < H.size → A1 q → A0 q) (hf : ∀ q, free q → A0 q) (hL : ∀ q ∈ L, free q.base) (hF : va_F A1 st₀ t) :
    H.size ≤ T'.heap.size ∧ (∀ q : Nat, q < H.size → ¬ A1 q → T'.heap[q]? = H[q]?) ∧ va_S A0 H0 T'.heap (locs ++ L) := by
  obtain ⟨hz, hk⟩ := hF
  rw [h0] at hz hk
  exact ⟨by rw [e1]; exact hz, fun q h1 h2 => by rw [e1]; exact hk q h1 h2,
    ⟨Nat.le_trans hS.1 (by rw [e1]; exact hz), fun q h1 h2 => by rw [e1, hk q (Nat.lt_of_lt_of_le h1 hS.1) (fun z => h2 (hA q (Nat.lt_of_lt_of_le h1 hS.1) z))]; exact hS.2.1 q h1 h2, fun q hq => by
      rcases List.mem_append.mp hq with h | h
      · exact hS.2.2 q h
      · exact hf _ (hL q h)⟩⟩
theorem vx_calli {S SX : Type} {post : Int32 → S → Prop} {px : SX → Prop} {B : S → State → Prop} {BX : String → SX → State → Prop} {AX : Nat → Prop} (hr : vx_Run p l e R s m args below meth c H locs cells slots mc ms (F0 m pc ls st0) rest (va_Qi post B A1 a) (vx_X px BX AX) free) (hS : va_S A0 H0 H locs) (hA : ∀ q, q < H.size → A1 q → A0 q) (hf : ∀ q, free q → A0 q) (hAX : ∀ q, q < H.size → AX q → A0 q)
    (kx : ∀ (E : String) (ce : Cell) (q9 : Addr) (u : SX) (t : State) (H1 : Heap) (locs1 : List Loc), t.heap = H1 → s.vm.Alike t.vm → px u → BX E u t → H.size ≤ H1.size → (∀ q : Nat, q < H.size → ¬ AX q → H1[q]? = H[q]?) → va_S A0 H0 H1 locs1 → H1[q9]? = some ce → ce.vm = .none → s.vm.findClass E = some ce.cls → vx_W p l e R s m args below meth c H1 locs1 (cells + mc) (slots + ms) Q (F0 m pc ls rest) q9)
    (kk : ∀ (r : Int32) (u : S) (t : State) (H1 : Heap) (locs1 : List Loc), t.heap = H1 → s.vm.Alike t.vm → post r u → B u t → H.size ≤ H1.size → (∀ q : Nat, q < H.size → ¬ A1 q → H1[q]? = H[q]?) → va_S A0 H0 H1 locs1 → W p l e R s m args below meth c H1 locs1 (cells + mc) (slots + ms) Q (F0 m (pc + 3) ls (.int r :: rest))) : W p l e R s m args below meth c H locs cells slots Q (F0 m pc ls st0) := by
  intro T hT X
  rcases hr T hT X with ⟨v, st₀, t, T', L, h0, X', hL, e1, e2, ⟨⟨r, u, hv, hp, hb⟩, hF⟩, st⟩ | ⟨q, st₀, t, T', L, E, ce, h0, X', hL, e1, e2, ⟨u, hp, hb, hF⟩, hce, hcv, hcl, st⟩
  · cases hv
    obtain ⟨k1, k2, k3⟩ := vx_keep h0 e1 hS hA hf hL hF
    obtain ⟨t2, a1, b1⟩ := kk r u t T'.heap (locs ++ L) e1.symm (by rw [← e2]; exact X'.warmed.alike) hp hb k1 k2 k3 T' rfl X'
    exact ⟨t2, st t2 a1, b1⟩
  · obtain ⟨k1, k2, k3⟩ := vx_keep h0 e1 hS hAX hf hL hF
    obtain ⟨t2, a1, b1⟩ := kx E ce q u t T'.heap (locs ++ L) e1.symm (by rw [← e2]; exact X'.warmed.alike) hp hb k1 k2 k3 (by rw [e1]; exact hce) hcv hcl T' rfl X'
    exact ⟨t2, st.trans a1, b1⟩
theorem vx_calll {S SX : Type} {post : Int64 → S → Prop} {px : SX → Prop} {B : S → State → Prop} {BX : String → SX → State → Prop} {AX : Nat → Prop} (hr : vx_Run p l e R s m args below meth c H locs cells slots mc ms (F0 m pc ls st0) rest (va_Ql post B A1 a) (vx_X px BX AX) free) (hS : va_S A0 H0 H locs) (hA : ∀ q, q < H.size → A1 q → A0 q) (hf : ∀ q, free q → A0 q) (hAX : ∀ q, q < H.size → AX q → A0 q)
    (kx : ∀ (E : String) (ce : Cell) (q9 : Addr) (u : SX) (t : State) (H1 : Heap) (locs1 : List Loc), t.heap = H1 → s.vm.Alike t.vm → px u → BX E u t → H.size ≤ H1.size → (∀ q : Nat, q < H.size → ¬ AX q → H1[q]? = H[q]?) → va_S A0 H0 H1 locs1 → H1[q9]? = some ce → ce.vm = .none → s.vm.findClass E = some ce.cls → vx_W p l e R s m args below meth c H1 locs1 (cells + mc) (slots + ms) Q (F0 m pc ls rest) q9)
    (kk : ∀ (r : Int64) (u : S) (t : State) (H1 : Heap) (locs1 : List Loc), t.heap = H1 → s.vm.Alike t.vm → post r u → B u t → H.size ≤ H1.size → (∀ q : Nat, q < H.size → ¬ A1 q → H1[q]? = H[q]?) → va_S A0 H0 H1 locs1 → W p l e R s m args below meth c H1 locs1 (cells + mc) (slots + ms) Q (F0 m (pc + 3) ls (.long r :: rest))) : W p l e R s m args below meth c H locs cells slots Q (F0 m pc ls st0) := by
  intro T hT X
  rcases hr T hT X with ⟨v, st₀, t, T', L, h0, X', hL, e1, e2, ⟨⟨r, u, hv, hp, hb⟩, hF⟩, st⟩ | ⟨q, st₀, t, T', L, E, ce, h0, X', hL, e1, e2, ⟨u, hp, hb, hF⟩, hce, hcv, hcl, st⟩
  · cases hv
    obtain ⟨k1, k2, k3⟩ := vx_keep h0 e1 hS hA hf hL hF
    obtain ⟨t2, a1, b1⟩ := kk r u t T'.heap (locs ++ L) e1.symm (by rw [← e2]; exact X'.warmed.alike) hp hb k1 k2 k3 T' rfl X'
    exact ⟨t2, st t2 a1, b1⟩
  · obtain ⟨k1, k2, k3⟩ := vx_keep h0 e1 hS hAX hf hL hF
    obtain ⟨t2, a1, b1⟩ := kx E ce q u t T'.heap (locs ++ L) e1.symm (by rw [← e2]; exact X'.warmed.alike) hp hb k1 k2 k3 (by rw [e1]; exact hce) hcv hcl T' rfl X'
    exact ⟨t2, st.trans a1, b1⟩
theorem vx_callf {S SX : Type} {post : UInt32 → S → Prop} {px : SX → Prop} {B : S → State → Prop} {BX : String → SX → State → Prop} {AX : Nat → Prop} (hr : vx_Run p l e R s m args below meth c H locs cells slots mc ms (F0 m pc ls st0) rest (va_Qf post B A1 a) (vx_X px BX AX) free) (hS : va_S A0 H0 H locs) (hA : ∀ q, q < H.size → A1 q → A0 q) (hf : ∀ q, free q → A0 q) (hAX : ∀ q, q < H.size → AX q → A0 q)
    (kx : ∀ (E : String) (ce : Cell) (q9 : Addr) (u : SX) (t : State) (H1 : Heap) (locs1 : List Loc), t.heap = H1 → s.vm.Alike t.vm → px u → BX E u t → H.size ≤ H1.size → (∀ q : Nat, q < H.size → ¬ AX q → H1[q]? = H[q]?) → va_S A0 H0 H1 locs1 → H1[q9]? = some ce → ce.vm = .none → s.vm.findClass E = some ce.cls → vx_W p l e R s m args below meth c H1 locs1 (cells + mc) (slots + ms) Q (F0 m pc ls rest) q9)
    (kk : ∀ (r : UInt32) (u : S) (t : State) (H1 : Heap) (locs1 : List Loc), t.heap = H1 → s.vm.Alike t.vm → post r u → B u t → H.size ≤ H1.size → (∀ q : Nat, q < H.size → ¬ A1 q → H1[q]? = H[q]?) → va_S A0 H0 H1 locs1 → W p l e R s m args below meth c H1 locs1 (cells + mc) (slots + ms) Q (F0 m (pc + 3) ls (.float r :: rest))) : W p l e R s m args below meth c H locs cells slots Q (F0 m pc ls st0) := by
  intro T hT X
  rcases hr T hT X with ⟨v, st₀, t, T', L, h0, X', hL, e1, e2, ⟨⟨r, u, hv, hp, hb⟩, hF⟩, st⟩ | ⟨q, st₀, t, T', L, E, ce, h0, X', hL, e1, e2, ⟨u, hp, hb, hF⟩, hce, hcv, hcl, st⟩
  · cases hv
    obtain ⟨k1, k2, k3⟩ := vx_keep h0 e1 hS hA hf hL hF
    obtain ⟨t2, a1, b1⟩ := kk r u t T'.heap (locs ++ L) e1.symm (by rw [← e2]; exact X'.warmed.alike) hp hb k1 k2 k3 T' rfl X'
    exact ⟨t2, st t2 a1, b1⟩
  · obtain ⟨k1, k2, k3⟩ := vx_keep h0 e1 hS hAX hf hL hF
    obtain ⟨t2, a1, b1⟩ := kx E ce q u t T'.heap (locs ++ L) e1.symm (by rw [← e2]; exact X'.warmed.alike) hp hb k1 k2 k3 (by rw [e1]; exact hce) hcv hcl T' rfl X'
    exact ⟨t2, st.trans a1, b1⟩
theorem vx_calld {S SX : Type} {post : UInt64 → S → Prop} {px : SX → Prop} {B : S → State → Prop} {BX : String → SX → State → Prop} {AX : Nat → Prop} (hr : vx_Run p l e R s m args below meth c H locs cells slots mc ms (F0 m pc ls st0) rest (va_Qd post B A1 a) (vx_X px BX AX) free) (hS : va_S A0 H0 H locs) (hA : ∀ q, q < H.size → A1 q → A0 q) (hf : ∀ q, free q → A0 q) (hAX : ∀ q, q < H.size → AX q → A0 q)
    (kx : ∀ (E : String) (ce : Cell) (q9 : Addr) (u : SX) (t : State) (H1 : Heap) (locs1 : List Loc), t.heap = H1 → s.vm.Alike t.vm → px u → BX E u t → H.size ≤ H1.size → (∀ q : Nat, q < H.size → ¬ AX q → H1[q]? = H[q]?) → va_S A0 H0 H1 locs1 → H1[q9]? = some ce → ce.vm = .none → s.vm.findClass E = some ce.cls → vx_W p l e R s m args below meth c H1 locs1 (cells + mc) (slots + ms) Q (F0 m pc ls rest) q9)
    (kk : ∀ (r : UInt64) (u : S) (t : State) (H1 : Heap) (locs1 : List Loc), t.heap = H1 → s.vm.Alike t.vm → post r u → B u t → H.size ≤ H1.size → (∀ q : Nat, q < H.size → ¬ A1 q → H1[q]? = H[q]?) → va_S A0 H0 H1 locs1 → W p l e R s m args below meth c H1 locs1 (cells + mc) (slots + ms) Q (F0 m (pc + 3) ls (.double r :: rest))) : W p l e R s m args below meth c H locs cells slots Q (F0 m pc ls st0) := by
  intro T hT X
  rcases hr T hT X with ⟨v, st₀, t, T', L, h0, X', hL, e1, e2, ⟨⟨r, u, hv, hp, hb⟩, hF⟩, st⟩ | ⟨q, st₀, t, T', L, E, ce, h0, X', hL, e1, e2, ⟨u, hp, hb, hF⟩, hce, hcv, hcl, st⟩
  · cases hv
    obtain ⟨k1, k2, k3⟩ := vx_keep h0 e1 hS hA hf hL hF
    obtain ⟨t2, a1, b1⟩ := kk r u t T'.heap (locs ++ L) e1.symm (by rw [← e2]; exact X'.warmed.alike) hp hb k1 k2 k3 T' rfl X'
    exact ⟨t2, st t2 a1, b1⟩
  · obtain ⟨k1, k2, k3⟩ := vx_keep h0 e1 hS hAX hf hL hF
    obtain ⟨t2, a1, b1⟩ := kx E ce q u t T'.heap (locs ++ L) e1.symm (by rw [← e2]; exact X'.warmed.alike) hp hb k1 k2 k3 (by rw [e1]; exact hce) hcv hcl T' rfl X'
    exact ⟨t2, st.trans a1, b1⟩
theorem vx_callv {S SX : Type} {post : S → Prop} {px : SX → Prop} {B : S → State → Prop} {BX : String → SX → State → Prop} {AX : Nat → Prop} (hr : vx_Run p l e R s m args below meth c H locs cells slots mc ms (F0 m pc ls st0) rest (va_Qv post B A1 a) (vx_X px BX AX) free) (hS : va_S A0 H0 H locs) (hA : ∀ q, q < H.size → A1 q → A0 q) (hf : ∀ q, free q → A0 q) (hAX : ∀ q, q < H.size → AX q → A0 q)
    (kx : ∀ (E : String) (ce : Cell) (q9 : Addr) (u : SX) (t : State) (H1 : Heap) (locs1 : List Loc), t.heap = H1 → s.vm.Alike t.vm → px u → BX E u t → H.size ≤ H1.size → (∀ q : Nat, q < H.size → ¬ AX q → H1[q]? = H[q]?) → va_S A0 H0 H1 locs1 → H1[q9]? = some ce → ce.vm = .none → s.vm.findClass E = some ce.cls → vx_W p l e R s m args below meth c H1 locs1 (cells + mc) (slots + ms) Q (F0 m pc ls rest) q9)
    (kk : ∀ (u : S) (t : State) (H1 : Heap) (locs1 : List Loc), t.heap = H1 → s.vm.Alike t.vm → post u → B u t → H.size ≤ H1.size → (∀ q : Nat, q < H.size → ¬ A1 q → H1[q]? = H[q]?) → va_S A0 H0 H1 locs1 → W p l e R s m args below meth c H1 locs1 (cells + mc) (slots + ms) Q (F0 m (pc + 3) ls (rest))) : W p l e R s m args below meth c H locs cells slots Q (F0 m pc ls st0) := by
  intro T hT X
  rcases hr T hT X with ⟨v, st₀, t, T', L, h0, X', hL, e1, e2, ⟨⟨u, hv, hp, hb⟩, hF⟩, st⟩ | ⟨q, st₀, t, T', L, E, ce, h0, X', hL, e1, e2, ⟨u, hp, hb, hF⟩, hce, hcv, hcl, st⟩
  · cases hv
    obtain ⟨k1, k2, k3⟩ := vx_keep h0 e1 hS hA hf hL hF
    obtain ⟨t2, a1, b1⟩ := kk u t T'.heap (locs ++ L) e1.symm (by rw [← e2]; exact X'.warmed.alike) hp hb k1 k2 k3 T' rfl X'
    exact ⟨t2, st t2 a1, b1⟩
  · obtain ⟨k1, k2, k3⟩ := vx_keep h0 e1 hS hAX hf hL hF
    obtain ⟨t2, a1, b1⟩ := kx E ce q u t T'.heap (locs ++ L) e1.symm (by rw [← e2]; exact X'.warmed.alike) hp hb k1 k2 k3 (by rw [e1]; exact hce) hcv hcl T' rfl X'
    exact ⟨t2, st.trans a1, b1⟩
/-- caught by the row x of this method's table; the rows ahead don't take it -/
theorem vx_catch {own name : String} {E : String} {ce : Cell} {q : Addr} (hown : s.vm.findClass own = some m.cls) (pre : List ExceptionTableEntry) (x : ExceptionTableEntry) (suf : List ExceptionTableEntry) (hsplit : c.exceptionTable.toList = pre ++ x :: suf)
    (hpass : ∀ z ∈ pre, covers z pc = false ∨ (z.catchType ≠ 0 ∧ ∃ nm : String, (Cond.classLink own z.catchType nm).before args s = true ∧ va_Nc E nm s)) (hx : covers x pc = true) (h0 : x.catchType ≠ 0)
    (hlink : (Cond.classLink own x.catchType name).before args s = true) (hcast : (Cond.castable E name).before args s = true) (hcell : H[q]? = some ce) (hv : ce.vm = .none) (hcl : s.vm.findClass E = some ce.cls)
    (kk : W p l e R s m args below meth c H locs cells slots Q (F0 m x.handlerPc ls [.ref q])) : vx_W p l e R s m args below meth c H locs cells slots Q (F0 m pc ls rest) q := by
  intro T hT X
  have hpl : e.platform.magicAccessors = ({} : Platform).magicAccessors := by rw [X.admits.platform]
  obtain ⟨c3, c4, hc3, hc4, hasg⟩ := Cond.castable_spec hcast
  cases Option.some.inj (hc3.symm.trans hcl)
  obtain ⟨c5, hc5, hcl5⟩ := Cond.classLink_spec hown hlink e.platform hpl
  cases Option.some.inj (hc4.symm.trans hc5)
  obtain ⟨vm', X', st⟩ := X.thenCaughtThrough q (g := F0 m pc ls rest) rfl (Steps.refl _) (by rw [hT]; exact hcell) (by rw [hv]; rfl) (by obtain ⟨k9, h9, -⟩ := Vm.findClass_spec hcl; exact ⟨k9, h9⟩) pre x suf hsplit
    (fun z hz => by
      rcases hpass z hz with h | ⟨hz0, nm, hl1, hn1⟩
      · exact Or.inl h
      · obtain ⟨c6, hc6, hcl6⟩ := Cond.classLink_spec hown hl1 e.platform hpl
        obtain ⟨a8, b8, h1, h2, h3⟩ := hn1
        cases Option.some.inj (h1.symm.trans hcl)
        cases Option.some.inj (h2.symm.trans hc6)
        exact Or.inr ⟨hz0, _, hcl6, h3⟩) hx (Or.inr ⟨h0, c4, hcl5, hasg⟩)
  obtain ⟨t, a1, b1⟩ := kk (T.setVm vm') hT X'
  exact ⟨t, st.trans a1, b1⟩
end Rows
section Ends
variable {p : Program} {l : Launch} {e : Env} {R : Room} {s : State} {m : MethodId} {args : Array Value} {below : List Frame} {meth : Method} {c : Code} {H : Heap} {locs : List Loc} {cells slots : Nat} {Q : State → Prop}
variable {mc ms : Nat} {free : Addr → Prop} {A0 A1 : Nat → Prop} {H0 : Heap} {a : Array Value} {ls : Array Slot} {st0 rest : List Value}
variable {Qc : Array Value → State → Outcome → State → Prop} {XC : String → State → State → Prop}
/-- what a body that may throw owes at its end -/
def vx_MQ (below : List Frame) (Qc : Array Value → State → Outcome → State → Prop) (XC : String → State → State → Prop) (a : Array Value) (s : State) (mc ms : Nat) (free : Addr → Prop) : State → Prop := fun t =>
  ∃ o, t.status = .running ∧ Ended t below o ∧ vx_Q Qc XC mc ms free a s o t
theorem vx_ret {g : JFrame} {mc ms : Nat} (k : W p l e R s m args below meth c H locs cells slots (MQ below Qc args s mc ms free) g) : W p l e R s m args below meth c H locs cells slots (vx_MQ below Qc XC args s mc ms free) g := by
  intro T hT X
  obtain ⟨t, a1, o, b1, b2, b3, b4⟩ := k T hT X
  exact ⟨t, a1, o, b1, b2, Or.inl ⟨b3, b4⟩⟩
/-- not caught here: it goes on to the caller -/
theorem vx_widen {g : JFrame} {q : Addr} {k n : Nat} (h1 : cells ≤ k) (h2 : slots ≤ n) (kk : vx_W p l e R s m args below meth c H locs k n Q g q) : vx_W p l e R s m args below meth c H locs cells slots Q g q := fun T hT X => kk T hT (stand_widen X h1 h2)
theorem vx_out {pc : Nat} {E : String} {ce : Cell} {q : Addr} {mc ms : Nat} (hout : ∀ x ∈ c.exceptionTable.toList, covers x pc = false) (hlocks : meth.locks = false) (hcell : H[q]? = some ce) (hv : ce.vm = .none) (hcl : s.vm.findClass E = some ce.cls)
    (hx : ∀ t : State, t.heap = H → s.vm.Alike t.vm → XC E s t) (hf : ∀ z ∈ locs, free z.base) (hc : cells ≤ mc) (hs : slots ≤ ms) :
    vx_W p l e R s m args below meth c H locs cells slots (vx_MQ below Qc XC args s mc ms free) (F0 m pc ls rest) q := by
  intro T hT X
  obtain ⟨st1, hrun, hend, hW, hsm⟩ := X.leaveThrown q (g := F0 m pc ls rest) rfl rfl rfl hout hlocks
  have hcell9 : (T.setFrames (.throwing q :: below)).heap[q]? = some ce := by
    show T.heap[q]? = some ce
    rw [hT]; exact hcell
  exact ⟨_, st1, .threw q, hrun, hend, Or.inr ⟨q, rfl, E, ce, locs, hx _ hT hW.alike, hcell9, hv, hcl, hW, hsm.mono hc hs, hf⟩⟩
theorem vx_frame {U : State} {k n : Nat} (h : s.sameButNew ({ U with vm := s.vm } : State) locs k n) : s.heap.size ≤ U.heap.size ∧ ∀ q : Nat, q < s.heap.size → (∀ z ∈ locs, z.base ≠ q) → U.heap[q]? = s.heap[q]? := by
  obtain ⟨-, h2, -, -, -, h6⟩ := h
  refine ⟨h2, fun q hq hz => ?_⟩
  obtain ⟨c9, e1, e2, e3, e4⟩ := h6 q _ (Array.getElem?_eq_getElem hq)
  have hs : c9.slots = (s.heap[q]).slots := Array.ext_getElem? fun i => e4 i fun hm => hz _ hm rfl
  have h9 : c9 = s.heap[q] := by
    rw [hs] at e2
    exact e2
  have e5 : U.heap[q]? = some c9 := e1
  rw [e5, h9, Array.getElem?_eq_getElem hq]
/-- the words of a throw but the four that speak of the heap -/
def vx_no (w : Cond) : Bool := decide (w ≠ .isRef (.static Bundle.tN "UNASSIGNED_STACK" Bundle.steD)) && decide (w ≠ .isRef (.static Bundle.tN "SUPPRESSED_SENTINEL" Bundle.listD)) && decide (w ≠ .laysStatic Bundle.tN "UNASSIGNED_STACK" Bundle.steD) && decide (w ≠ .laysStatic Bundle.tN "SUPPRESSED_SENTINEL" Bundle.listD)
def vx_at0 (own : String) (ic : Nat) (X : String) (names : List String) : List Cond := (Bundle.ownAtoms0 own ic X names).filter vx_no
def vx_atS (own : String) (ic : Nat) (X : String) (names : List String) : List Cond := (Bundle.ownAtoms own ic X names).filter vx_no
/-- a word that the tables alone decide, or a good one -/
def vx_ot (w : Cond) : Bool := w.onTables || goodWord w
theorem vx_ot_at {args a' : Array Value} {s U : State} {w : Cond} (hW : s.WarmedH U.vm) (hvm : s.vm = U.vm) (hg : vx_ot w = true) (h : w.before args s = true) : w.before a' U = true := by
  simp only [vx_ot, Bool.or_eq_true] at hg
  rcases hg with hg | hg
  · exact va_tabs hg hvm h
  · exact word_at hW (good_of_word hg) h
/-- a list's words: the good ones out of the method's own list, the others by premises of their own -/
theorem vx_hat {args : Array Value} {s : State} {L B : List Cond} (h1 : ∀ w ∈ L.filter goodWord, w.before args s = true) (h2 : ∀ w ∈ L.filter (fun w => !goodWord w), w ∈ B) (h3 : ∀ w ∈ B, w.before args s = true) : ∀ w ∈ L, w.before args s = true := by
  intro w hw
  by_cases g : goodWord w = true
  · exact h1 w (List.mem_filter.mpr ⟨hw, g⟩)
  · refine h3 w (h2 w (List.mem_filter.mpr ⟨hw, ?_⟩))
    show (!goodWord w) = true
    cases hgw : goodWord w
    · rfl
    · exact absurd hgw g
theorem vx_c {args : Array Value} {s : State} {w : Cond} {B : List Cond} (h : w.before args s = true) (t : ∀ w ∈ B, w.before args s = true) : ∀ w' ∈ w :: B, w'.before args s = true := fun w' h' => (List.mem_cons.mp h').elim (fun e => by rw [e]; exact h) (t w')
theorem vx_n {args : Array Value} {s : State} : ∀ w ∈ ([] : List Cond), w.before args s = true := fun _ h => nomatch h
theorem vx_own {args : Array Value} {s : State} {L : List Cond} (h1 : ∀ w ∈ L.filter vx_no, w.before args s = true)
    (hU : (Cond.isRef (.static Bundle.tN "UNASSIGNED_STACK" Bundle.steD)).before args s = true) (hN : (Cond.isRef (.static Bundle.tN "SUPPRESSED_SENTINEL" Bundle.listD)).before args s = true)
    (lU : (Cond.laysStatic Bundle.tN "UNASSIGNED_STACK" Bundle.steD).before args s = true) (lN : (Cond.laysStatic Bundle.tN "SUPPRESSED_SENTINEL" Bundle.listD).before args s = true) : ∀ w ∈ L, w.before args s = true := by
  intro w hw
  by_cases e1 : w = .isRef (.static Bundle.tN "UNASSIGNED_STACK" Bundle.steD)
  · rw [e1]; exact hU
  · by_cases e2 : w = .isRef (.static Bundle.tN "SUPPRESSED_SENTINEL" Bundle.listD)
    · rw [e2]; exact hN
    · by_cases e3 : w = .laysStatic Bundle.tN "UNASSIGNED_STACK" Bundle.steD
      · rw [e3]; exact lU
      · by_cases e4 : w = .laysStatic Bundle.tN "SUPPRESSED_SENTINEL" Bundle.listD
        · rw [e4]; exact lN
        · exact h1 w (List.mem_filter.mpr ⟨hw, by unfold vx_no; rw [decide_eq_true e1, decide_eq_true e2, decide_eq_true e3, decide_eq_true e4]; rfl⟩)
/-- where a static field lies, its class's statics cell in H -/
def vx_L (C n d : String) (A : Nat → Prop) (U : State) (H : Heap) : Prop := ∃ (c : ClassId) (k : Class) (i : Nat) (f : Field) (a : Nat) (cell : Cell), U.vm.findClass C = some c ∧ U.fieldFound? C n d = some (c, k, i, f) ∧ f.isStatic = true ∧ k.statics = some a ∧ H[a]? = some cell ∧ cell.vm.isStatics = true ∧ cell.cls = c ∧ f.slot < cell.slots.size ∧ k.staticTypes[f.slot]? = some f.type ∧ ¬ A a
theorem vx_L.moved {C n d : String} {A : Nat → Prop} {u U : State} {H : Heap} (hvm : u.vm.Alike U.vm) (h : vx_L C n d A u H) : vx_L C n d A U H := by
  obtain ⟨c, k, i, f, a, cell, h1, h2, h3, h4, h5, h6, h7, h8, h9, h10⟩ := h
  obtain ⟨k', hi', he⟩ := State.fieldFound?_setVm hvm h2
  exact ⟨c, k', i, f, a, cell, by rw [hvm.findClass]; exact h1, hi', h3, by rw [he]; exact h4, h5, h6, h7, h8, by rw [he]; exact h9, h10⟩
theorem vx_L.kept {C n d : String} {A : Nat → Prop} {U : State} {H H1 : Heap} (h : vx_L C n d A U H) (hq : ∀ a : Nat, a < H.size → ¬ A a → H1[a]? = H[a]?) : vx_L C n d A U H1 := by
  obtain ⟨c, k, i, f, a, cell, h1, h2, h3, h4, h5, h6, h7, h8, h9, h10⟩ := h
  exact ⟨c, k, i, f, a, cell, h1, h2, h3, h4, by rw [hq a (Array.getElem?_eq_some_iff.mp h5).1 h10]; exact h5, h6, h7, h8, h9, h10⟩
theorem vx_L.narrow {C n d : String} {A B : Nat → Prop} {U : State} {H : Heap} (h : vx_L C n d A U H) (hAB : ∀ q, B q → A q) : vx_L C n d B U H := by
  obtain ⟨c, k, i, f, a, cell, h1, h2, h3, h4, h5, h6, h7, h8, h9, h10⟩ := h
  exact ⟨c, k, i, f, a, cell, h1, h2, h3, h4, h5, h6, h7, h8, h9, fun z => h10 (hAB _ z)⟩
theorem vx_L.word {C n d : String} {A : Nat → Prop} {s : State} {args : Array Value} (h : vx_L C n d A s s.heap) : (Cond.laysStatic C n d).before args s = true := by
  obtain ⟨c, k, i, f, a, cell, h1, h2, h3, h4, h5, h6, h7, h8, h9, -⟩ := h
  show (Cond.laysStatic C n d).holds args s none s [] = true
  exact Cond.laysStatic_of h1 h2 h3 h4 h5 h6 h7 h8 h9
/-- .. and what it holds: null or some reference -/
def vx_Zq (C n d : String) (A : Nat → Prop) (U : State) (H : Heap) : Prop := va_Zq C n d A U H ∧ vx_L C n d A U H
theorem vx_Zq.moved {C n d : String} {A : Nat → Prop} {u U : State} {H : Heap} (hvm : u.vm.Alike U.vm) (h : vx_Zq C n d A u H) : vx_Zq C n d A U H := ⟨va_Zq.moved hvm h.1, vx_L.moved hvm h.2⟩
theorem vx_Zq.kept {C n d : String} {A : Nat → Prop} {U : State} {H H1 : Heap} (h : vx_Zq C n d A U H) (hq : ∀ a : Nat, a < H.size → ¬ A a → H1[a]? = H[a]?) : vx_Zq C n d A U H1 := ⟨va_Zq.kept h.1 hq, vx_L.kept h.2 hq⟩
theorem vx_Zq.narrow {C n d : String} {A B : Nat → Prop} {U : State} {H : Heap} (h : vx_Zq C n d A U H) (hAB : ∀ q, B q → A q) : vx_Zq C n d B U H := ⟨va_Zq.narrow h.1 hAB, vx_L.narrow h.2 hAB⟩
theorem vx_Zqof {args : Array Value} {s : State} {C n d : String} {A : Nat → Prop} (hl : (Cond.laysStatic C n d).before args s = true) (hini : (Cond.initialized C).before args s = true) (h : (Cond.isRef (.static C n d)).before args s = true) (hA : ∀ a : Nat, a < s.heap.size → ¬ A a) : vx_Zq C n d A s s.heap := by
  refine ⟨va_Zqof hl hini h hA, ?_⟩
  obtain ⟨c, k, i, f, a, cell, h1, h2, h3, h4, h5, h6, h7, h8, h9⟩ := Cond.laysStatic_spec hl
  exact ⟨c, k, i, f, a, cell, h1, h2, h3, h4, h5, h6, h7, h8, h9, hA a (Array.getElem?_eq_some_iff.mp h5).1⟩
theorem vx_isRef {C n d : String} {v : Value} {A : Nat → Prop} {s : State} {args : Array Value} (h : va_Z C n d v A s s.heap) (hv : v.isRef = true) : (Cond.isRef (.static C n d)).before args s = true := by
  obtain ⟨cf, kf, fi, f, a, cell, h1, h2, h3, h4, h5, h6, h7, -⟩ := h
  have he : (Term.static C n d).eval args s none [] s = some v := by
    simp [Term.eval, State.fieldNamed?, h1, h2, h4, h5, h6, h7]
  simp only [Cond.before, Cond.holds, Cond.value, he]
  cases v <;> simp_all [Value.isRef]
theorem vx_isRefq {C n d : String} {A : Nat → Prop} {s : State} {args : Array Value} (h : va_Zq C n d A s s.heap) : (Cond.isRef (.static C n d)).before args s = true := by
  rcases h with h | ⟨t, h⟩
  · exact vx_isRef h rfl
  · exact vx_isRef h rfl
/-- the same frame, seen from here: as if the method were called anew in this heap -/
theorem vx_rebase {T : State} (X : Stand p l e R s m args below meth c T locs cells slots) {R' : Room} (hf : R'.frames ≤ R.frames) (hl : R'.locals ≤ R.locals) (hc : cells + R'.cells ≤ R.cells) (hs : slots + R'.slots ≤ R.slots) :
    Stand p l e R' ((T.setVm s.vm).setFrames (.invoking m args :: below)) m args below meth c T [] 0 0 := by
  have htop : (T.setVm s.vm).topJava?.isSome := X.here.top
  have hF : ((T.setVm s.vm).setFrames (.invoking m args :: below)).frames = .invoking m args :: below := State.frames_setFrames _ (State.cur_lt_of_top htop)
  obtain ⟨g₀, hg0⟩ := Option.isSome_iff_exists.mp htop
  obtain ⟨r, hr⟩ := State.topJava?_eq_some.mp hg0
  have hl9 : e.platform.stackLimits (T.setVm s.vm).me = e.platform.stackLimits s.me := X.limits
  have hb9 : (T.setVm s.vm).me.stackBytes = s.me.stackBytes := X.bytes
  refine ⟨X.admits, X.cas, X.clock, hF, ?_, X.hears, X.method, X.code, X.here, X.tail, X.warmed, ?_, ?_, ?_⟩
  · have h := X.room
    have hU : ((T.setVm s.vm).setFrames (.invoking m args :: below)).localsInUse = s.localsInUse := by
      rw [State.localsInUse_invoking hF (meth := meth) (c := c) X.method X.code, State.localsInUse_invoking X.frames X.method X.code]
    simp only [State.hasRoom, Bool.and_eq_true, decide_eq_true_eq] at h ⊢
    obtain ⟨⟨⟨⟨h1, h2, h3, h4, h5, h6⟩, h7⟩, h8⟩, h9⟩ := h
    rw [X.frames, List.length_cons] at h2 h3
    have q1 := X.heapSize
    have q2 := X.used
    simp only [hF, hU, List.length_cons, State.stackLimits_setFrames, State.stackBytes_setFrames, hl9, hb9]
    refine ⟨⟨⟨⟨by omega, by omega, by omega, by omega, by omega, h6⟩, ?_⟩, ?_⟩, X.book⟩
    · show T.heap.size + R'.cells ≤ e.platform.maxCells
      omega
    · show T.slotsUsed + R'.slots ≤ e.platform.maxSlots
      omega
  · rw [State.stackLimits_setFrames]; rfl
  · rw [State.stackBytes_setFrames]; rfl
  · refine ⟨?_, Nat.le_refl _, Nat.le_refl _, ?_, ?_, fun a c9 h9 => ⟨c9, h9, rfl, rfl, fun _ _ => rfl⟩⟩
    · obtain ⟨t, ht, -⟩ := State.frames_cons hr
      show T.setVm s.vm = { ((T.setVm s.vm).setFrames (.invoking m args :: below)).setFrames (T.setVm s.vm).frames with heap := T.heap, slotsUsed := T.slotsUsed }
      rw [State.setFrames_setFrames, State.setFrames_self ht]
      rfl
    · show T.slotsUsed = T.slotsUsed + ((T.heap.toList.drop T.heap.size).map (·.slots.size)).sum
      rw [List.drop_eq_nil_of_le (Nat.le_of_eq Array.length_toList)]
      rfl
    · show ((T.heap.toList.drop T.heap.size).map (·.slots.size)).sum ≤ 0
      rw [List.drop_eq_nil_of_le (Nat.le_of_eq Array.length_toList)]
      exact Nat.le_refl _
/-- 'throw new E()': new; dup; invokespecial; athrow -/
theorem vx_throw0 {cc : ByteArray} {pc : Nat} (hexec : p.tables.exec = Jvm.exec) (hb : c.code = cc) (hl : l.stackTraces = false) {own cls : String} {names : List String} {ik ic mc ms : Nat} {A : Nat → Prop}
    (hown : s.vm.findClass own = some m.cls) (hcls : Bundle.fit cls = true) (hnames : ∀ n ∈ names, Bundle.fit n = true)
    (hk : (Cond.classLink own ik cls).before args s = true) (hini : (Cond.initialized cls).before args s = true) (hat : ∀ w ∈ vx_at0 own ic cls names, w.before args s = true)
    (hgood : ∀ w ∈ Cond.classLink own ik cls :: Cond.initialized cls :: vx_at0 own ic cls names, vx_ot w = true)
    (hU : vx_Zq Bundle.tN "UNASSIGNED_STACK" Bundle.steD A s s.heap) (hN : vx_Zq Bundle.tN "SUPPRESSED_SENTINEL" Bundle.listD A s s.heap) (hS : va_S A s.heap H locs) (hsize : ls.size = c.maxLocals)
    (d0 : decode cc pc = .ok (.new ik, 3)) (d3 : decode cc (pc + 3) = .ok (.dup, 1)) (d4 : decode cc (pc + 4) = .ok (.invokespecial ic, 3)) (d7 : decode cc (pc + 7) = .ok (.athrow, 1))
    (hout : ∀ x ∈ c.exceptionTable.toList, covers x (pc + 7) = false)
    (hRframes : names.length + 3 < R.frames) (hRlocals : (rest.map fun v => v.category).sum + (13 * (names.length + 1) + 42) ≤ R.locals) (hRcells : cells + 1 ≤ R.cells) (hRslots : slots + 6 ≤ R.slots) (hlocks : meth.locks = false)
    (hx : ∀ t : State, s.vm.Alike t.vm → H.size ≤ t.heap.size → (∀ q : Nat, q < H.size → t.heap[q]? = H[q]?) → XC cls s t)
    (hf : ∀ z ∈ locs, free z.base) (hc : cells + 1 ≤ mc) (hs : slots + 6 ≤ ms) :
    W p l e R s m args below meth c H locs cells slots (vx_MQ below Qc XC args s mc ms free) (F0 m pc ls rest) := by
  intro T hT X
  have htr : e.platform.stackTraces = false := (show e.platform.stackTraces = l.stackTraces by rw [X.admits.platform]).trans hl
  have Y := vx_rebase X (R' := { frames := R.frames, locals := R.locals, cells := 1, slots := 6 }) (Nat.le_refl _) (Nat.le_refl _) hRcells hRslots
  obtain ⟨s', hA⟩ : ∃ z, z = (T.setVm s.vm).setFrames (.invoking m args :: below) := ⟨_, rfl⟩
  rw [← hA] at Y
  have hvm : s'.vm = s.vm := by rw [hA]; rfl
  have hhp : s'.heap = H := by rw [hA]; exact hT
  have hW0 : s.WarmedH s'.vm := by rw [hvm]; exact State.WarmedH.refl s
  have hat' : ∀ w ∈ vx_at0 own ic cls names, w.before args s' = true := fun w hw => vx_ot_at hW0 hvm.symm (hgood w (List.mem_cons_of_mem _ (List.mem_cons_of_mem _ hw))) (hat w hw)
  have hk' : (Cond.classLink own ik cls).before args s' = true := vx_ot_at hW0 hvm.symm (hgood _ List.mem_cons_self) hk
  have hini' : (Cond.initialized cls).before args s' = true := vx_ot_at hW0 hvm.symm (hgood _ (List.mem_cons_of_mem _ List.mem_cons_self)) hini
  have hU' : vx_Zq Bundle.tN "UNASSIGNED_STACK" Bundle.steD A s' s'.heap := by rw [hhp]; exact vx_Zq.moved hW0.alike (hU.kept hS.2.1)
  have hN' : vx_Zq Bundle.tN "SUPPRESSED_SENTINEL" Bundle.listD A s' s'.heap := by rw [hhp]; exact vx_Zq.moved hW0.alike (hN.kept hS.2.1)
  have h : ∀ w ∈ Bundle.ownAtoms0 own ic cls names, w.before args s' = true := vx_own hat' (vx_isRefq hU'.1) (vx_isRefq hN'.1) hU'.2.word hN'.2.word
  have hown' : s'.vm.findClass own = some m.cls := by rw [hvm]; exact hown
  have hins : (Cond.instantiable cls 6).before args s' = true := h _ (by simp [Bundle.ownAtoms0])
  obtain ⟨vm₁, cX, kX, hfX, hkX, -, -, X₁, st1⟩ := Y.newCold hexec (own := own) (C := cls) (index := ik) (n := 6) hown' hk' hins hini'
    (g := F0 m pc ls rest) rfl (by rw [hb]; exact d0) (Nat.le_refl _) (Nat.le_refl _)
  generalize hT1 : (T.setVm vm₁).pushCell { cls := cX, slots := kX.instanceTypes.map defaultValue, vm := .none } = T1 at X₁ st1
  have hcat : (Value.ref T.heap.size).category = 1 := rfl
  have hcellA : T1.heap[T.heap.size]? = some (freshCell cX kX) := by rw [← hT1]; exact State.heap_pushCell_size _ _
  have d3' : decode c.code (pc + 3) = .ok (.dup, 1) := by rw [hb]; exact d3
  obtain ⟨U, hsteps, hrun, hend, hW, hsame, ce, hce, hO⟩ := X₁.ctorThrow0 hexec htr (own := own) (cls := cls) (names := names) (ic := ic) hown' hcls hnames h (fun x hx => nomatch hx) hfX hkX hcellA (by rw [hhp, hT]; exact Nat.le_refl _)
    (g := { method := m, pc := pc + 4, locals := ls, stack := .ref T.heap.size :: .ref T.heap.size :: rest, locked := none }) rfl hsize rfl rfl (rest := rest) rfl
    (by rw [hb]; exact d4) (by rw [hb]; exact d7) hout hRframes (by simp only [List.map_cons, List.sum_cons, hcat]; omega) hlocks
  obtain ⟨f1, f2⟩ := vx_frame hsame
  rw [hhp] at f1 f2
  have hWs : s.WarmedH U.vm := State.WarmedH.trans hW0 hW
  have hcl : s.vm.findClass cls = some ce.cls := by
    have h9 := hO.cls
    rw [hvm] at h9
    exact h9
  have hall : s.sameButNew ({ U with vm := s.vm } : State) locs mc ms := by
    subst hA
    obtain ⟨e1, e2⟩ := hsame
    rw [State.setFrames_setFrames] at e1
    have h2 : (T.setVm s.vm).sameButNew ({ U with vm := s.vm } : State) [] (0 + 1) (0 + 6) := ⟨e1, e2⟩
    have h3 := X.same.trans h2
    rw [List.append_nil] at h3
    exact h3.mono hc hs
  refine ⟨U, ?_, .threw T.heap.size, hrun, hend, Or.inr ⟨T.heap.size, rfl, cls, ce, locs, hx U hWs.alike f1 (fun q hq => f2 q hq (fun z hz => nomatch hz)), hce, hO.vm, hcl, hWs, hall, hf⟩⟩
  refine st1 _ ?_
  show Steps p.tables e below (T1.setTop { method := m, pc := pc + 3, locals := ls, stack := .ref T.heap.size :: rest, locked := none }) _
  jvm_step X₁.here [X₁.here.top, hexec, d3', Value.category]
  exact hsteps
/-- 'throw new E("text")': new; dup; ldc; invokespecial; athrow -/
theorem vx_throwS {cc : ByteArray} {pc : Nat} (hexec : p.tables.exec = Jvm.exec) (hb : c.code = cc) (hl : l.stackTraces = false) {own cls text : String} {names : List String} {ik is ic mc ms sa : Nat} {A : Nat → Prop}
    (hown : s.vm.findClass own = some m.cls) (hcls : Bundle.fit cls = true) (hnames : ∀ n ∈ names, Bundle.fit n = true)
    (hk : (Cond.classLink own ik cls).before args s = true) (hini : (Cond.initialized cls).before args s = true) (hstr : vk_R own is text sa s) (hat : ∀ w ∈ vx_atS own ic cls names, w.before args s = true)
    (hgood : ∀ w ∈ Cond.classLink own ik cls :: Cond.initialized cls :: vx_atS own ic cls names, vx_ot w = true)
    (hU : vx_Zq Bundle.tN "UNASSIGNED_STACK" Bundle.steD A s s.heap) (hN : vx_Zq Bundle.tN "SUPPRESSED_SENTINEL" Bundle.listD A s s.heap) (hS : va_S A s.heap H locs) (hsize : ls.size = c.maxLocals)
    (d0 : decode cc pc = .ok (.new ik, 3)) (d3 : decode cc (pc + 3) = .ok (.dup, 1)) (d4 : decode cc (pc + 4) = .ok (.ldc is, 2)) (d6 : decode cc (pc + 6) = .ok (.invokespecial ic, 3)) (d9 : decode cc (pc + 9) = .ok (.athrow, 1))
    (hout : ∀ x ∈ c.exceptionTable.toList, covers x (pc + 9) = false)
    (hRframes : names.length + 3 < R.frames) (hRlocals : (rest.map fun v => v.category).sum + (13 * (names.length + 1) + 43) ≤ R.locals) (hRcells : cells + 1 ≤ R.cells) (hRslots : slots + 6 ≤ R.slots) (hlocks : meth.locks = false)
    (hx : ∀ t : State, s.vm.Alike t.vm → H.size ≤ t.heap.size → (∀ q : Nat, q < H.size → t.heap[q]? = H[q]?) → XC cls s t)
    (hf : ∀ z ∈ locs, free z.base) (hc : cells + 1 ≤ mc) (hs : slots + 6 ≤ ms) :
    W p l e R s m args below meth c H locs cells slots (vx_MQ below Qc XC args s mc ms free) (F0 m pc ls rest) := by
  intro T hT X
  have htr : e.platform.stackTraces = false := (show e.platform.stackTraces = l.stackTraces by rw [X.admits.platform]).trans hl
  have Y := vx_rebase X (R' := { frames := R.frames, locals := R.locals, cells := 1, slots := 6 }) (Nat.le_refl _) (Nat.le_refl _) hRcells hRslots
  obtain ⟨s', hA⟩ : ∃ z, z = (T.setVm s.vm).setFrames (.invoking m args :: below) := ⟨_, rfl⟩
  rw [← hA] at Y
  have hvm : s'.vm = s.vm := by rw [hA]; rfl
  have hhp : s'.heap = H := by rw [hA]; exact hT
  have hW0 : s.WarmedH s'.vm := by rw [hvm]; exact State.WarmedH.refl s
  have hat' : ∀ w ∈ vx_atS own ic cls names, w.before args s' = true := fun w hw => vx_ot_at hW0 hvm.symm (hgood w (List.mem_cons_of_mem _ (List.mem_cons_of_mem _ hw))) (hat w hw)
  have hk' : (Cond.classLink own ik cls).before args s' = true := vx_ot_at hW0 hvm.symm (hgood _ List.mem_cons_self) hk
  have hini' : (Cond.initialized cls).before args s' = true := vx_ot_at hW0 hvm.symm (hgood _ (List.mem_cons_of_mem _ List.mem_cons_self)) hini
  have hU' : vx_Zq Bundle.tN "UNASSIGNED_STACK" Bundle.steD A s' s'.heap := by rw [hhp]; exact vx_Zq.moved hW0.alike (hU.kept hS.2.1)
  have hN' : vx_Zq Bundle.tN "SUPPRESSED_SENTINEL" Bundle.listD A s' s'.heap := by rw [hhp]; exact vx_Zq.moved hW0.alike (hN.kept hS.2.1)
  have h : ∀ w ∈ Bundle.ownAtoms own ic cls names, w.before args s' = true := vx_own hat' (vx_isRefq hU'.1) (vx_isRefq hN'.1) hU'.2.word hN'.2.word
  have hown' : s'.vm.findClass own = some m.cls := by rw [hvm]; exact hown
  have hins : (Cond.instantiable cls 6).before args s' = true := h _ (by simp [Bundle.ownAtoms])
  obtain ⟨vm₁, cX, kX, hfX, hkX, -, -, X₁, st1⟩ := Y.newCold hexec (own := own) (C := cls) (index := ik) (n := 6) hown' hk' hins hini'
    (g := F0 m pc ls rest) rfl (by rw [hb]; exact d0) (Nat.le_refl _) (Nat.le_refl _)
  generalize hT1 : (T.setVm vm₁).pushCell { cls := cX, slots := kX.instanceTypes.map defaultValue, vm := .none } = T1 at X₁ st1
  have hcat : (Value.ref T.heap.size).category = 1 := rfl
  have hcellA : T1.heap[T.heap.size]? = some (freshCell cX kX) := by rw [← hT1]; exact State.heap_pushCell_size _ _
  have d3' : decode c.code (pc + 3) = .ok (.dup, 1) := by rw [hb]; exact d3
  have d4' : decode c.code (pc + 4) = .ok (.ldc is, 2) := by rw [hb]; exact d4
  have hstr' : vk_R own is text sa s' := vk_R.warm hW0 hstr
  obtain ⟨U, hsteps, hrun, hend, hW, hsame, ce, hce, hO⟩ := X₁.ctorThrowS hexec htr (own := own) (cls := cls) (names := names) (ic := ic) hown' hcls hnames h (fun x hx => nomatch hx) hfX hkX hcellA (by rw [hhp, hT]; exact Nat.le_refl _) (msg := .ref sa) rfl
    (g := { method := m, pc := pc + 6, locals := ls, stack := .ref sa :: .ref T.heap.size :: .ref T.heap.size :: rest, locked := none }) rfl hsize rfl rfl (rest := rest) rfl
    (by rw [hb]; exact d6) (by rw [hb]; exact d9) hout hRframes (by simp only [List.map_cons, List.sum_cons, hcat]; omega) hlocks
  obtain ⟨f1, f2⟩ := vx_frame hsame
  rw [hhp] at f1 f2
  have hWs : s.WarmedH U.vm := State.WarmedH.trans hW0 hW
  have hcl : s.vm.findClass cls = some ce.cls := by
    have h9 := hO.cls
    rw [hvm] at h9
    exact h9
  have hall : s.sameButNew ({ U with vm := s.vm } : State) locs mc ms := by
    subst hA
    obtain ⟨e1, e2⟩ := hsame
    rw [State.setFrames_setFrames] at e1
    have h2 : (T.setVm s.vm).sameButNew ({ U with vm := s.vm } : State) [] (0 + 1) (0 + 6) := ⟨e1, e2⟩
    have h3 := X.same.trans h2
    rw [List.append_nil] at h3
    exact h3.mono hc hs
  refine ⟨U, ?_, .threw T.heap.size, hrun, hend, Or.inr ⟨T.heap.size, rfl, cls, ce, locs, hx U hWs.alike f1 (fun q hq => f2 q hq (fun z hz => nomatch hz)), hce, hO.vm, hcl, hWs, hall, hf⟩⟩
  refine st1 _ ?_
  show Steps p.tables e below (T1.setTop { method := m, pc := pc + 3, locals := ls, stack := .ref T.heap.size :: rest, locked := none }) _
  jvm_step X₁.here [X₁.here.top, hexec, d3', Value.category]
  exact X₁.ldcString hexec (own := own) (text := text) (index := is) (a := sa) hown' hstr'.1 hstr'.2
    (g := { method := m, pc := pc + 4, locals := ls, stack := .ref T.heap.size :: .ref T.heap.size :: rest, locked := none }) rfl d4' _ hsteps
/-- 'throw new E("text")', the text by a wide index -/
theorem vx_throwSW {cc : ByteArray} {pc : Nat} (hexec : p.tables.exec = Jvm.exec) (hb : c.code = cc) (hl : l.stackTraces = false) {own cls text : String} {names : List String} {ik is ic mc ms sa : Nat} {A : Nat → Prop}
    (hown : s.vm.findClass own = some m.cls) (hcls : Bundle.fit cls = true) (hnames : ∀ n ∈ names, Bundle.fit n = true)
    (hk : (Cond.classLink own ik cls).before args s = true) (hini : (Cond.initialized cls).before args s = true) (hstr : vk_R own is text sa s) (hat : ∀ w ∈ vx_atS own ic cls names, w.before args s = true)
    (hgood : ∀ w ∈ Cond.classLink own ik cls :: Cond.initialized cls :: vx_atS own ic cls names, vx_ot w = true)
    (hU : vx_Zq Bundle.tN "UNASSIGNED_STACK" Bundle.steD A s s.heap) (hN : vx_Zq Bundle.tN "SUPPRESSED_SENTINEL" Bundle.listD A s s.heap) (hS : va_S A s.heap H locs) (hsize : ls.size = c.maxLocals)
    (d0 : decode cc pc = .ok (.new ik, 3)) (d3 : decode cc (pc + 3) = .ok (.dup, 1)) (d4 : decode cc (pc + 4) = .ok (.ldc_w is, 3)) (d7 : decode cc (pc + 7) = .ok (.invokespecial ic, 3)) (d10 : decode cc (pc + 10) = .ok (.athrow, 1))
    (hout : ∀ x ∈ c.exceptionTable.toList, covers x (pc + 10) = false)
    (hRframes : names.length + 3 < R.frames) (hRlocals : (rest.map fun v => v.category).sum + (13 * (names.length + 1) + 43) ≤ R.locals) (hRcells : cells + 1 ≤ R.cells) (hRslots : slots + 6 ≤ R.slots) (hlocks : meth.locks = false)
    (hx : ∀ t : State, s.vm.Alike t.vm → H.size ≤ t.heap.size → (∀ q : Nat, q < H.size → t.heap[q]? = H[q]?) → XC cls s t)
    (hf : ∀ z ∈ locs, free z.base) (hc : cells + 1 ≤ mc) (hs : slots + 6 ≤ ms) :
    W p l e R s m args below meth c H locs cells slots (vx_MQ below Qc XC args s mc ms free) (F0 m pc ls rest) := by
  intro T hT X
  have htr : e.platform.stackTraces = false := (show e.platform.stackTraces = l.stackTraces by rw [X.admits.platform]).trans hl
  have Y := vx_rebase X (R' := { frames := R.frames, locals := R.locals, cells := 1, slots := 6 }) (Nat.le_refl _) (Nat.le_refl _) hRcells hRslots
  obtain ⟨s', hA⟩ : ∃ z, z = (T.setVm s.vm).setFrames (.invoking m args :: below) := ⟨_, rfl⟩
  rw [← hA] at Y
  have hvm : s'.vm = s.vm := by rw [hA]; rfl
  have hhp : s'.heap = H := by rw [hA]; exact hT
  have hW0 : s.WarmedH s'.vm := by rw [hvm]; exact State.WarmedH.refl s
  have hat' : ∀ w ∈ vx_atS own ic cls names, w.before args s' = true := fun w hw => vx_ot_at hW0 hvm.symm (hgood w (List.mem_cons_of_mem _ (List.mem_cons_of_mem _ hw))) (hat w hw)
  have hk' : (Cond.classLink own ik cls).before args s' = true := vx_ot_at hW0 hvm.symm (hgood _ List.mem_cons_self) hk
  have hini' : (Cond.initialized cls).before args s' = true := vx_ot_at hW0 hvm.symm (hgood _ (List.mem_cons_of_mem _ List.mem_cons_self)) hini
  have hU' : vx_Zq Bundle.tN "UNASSIGNED_STACK" Bundle.steD A s' s'.heap := by rw [hhp]; exact vx_Zq.moved hW0.alike (hU.kept hS.2.1)
  have hN' : vx_Zq Bundle.tN "SUPPRESSED_SENTINEL" Bundle.listD A s' s'.heap := by rw [hhp]; exact vx_Zq.moved hW0.alike (hN.kept hS.2.1)
  have h : ∀ w ∈ Bundle.ownAtoms own ic cls names, w.before args s' = true := vx_own hat' (vx_isRefq hU'.1) (vx_isRefq hN'.1) hU'.2.word hN'.2.word
  have hown' : s'.vm.findClass own = some m.cls := by rw [hvm]; exact hown
  have hins : (Cond.instantiable cls 6).before args s' = true := h _ (by simp [Bundle.ownAtoms])
  obtain ⟨vm₁, cX, kX, hfX, hkX, -, -, X₁, st1⟩ := Y.newCold hexec (own := own) (C := cls) (index := ik) (n := 6) hown' hk' hins hini'
    (g := F0 m pc ls rest) rfl (by rw [hb]; exact d0) (Nat.le_refl _) (Nat.le_refl _)
  generalize hT1 : (T.setVm vm₁).pushCell { cls := cX, slots := kX.instanceTypes.map defaultValue, vm := .none } = T1 at X₁ st1
  have hcat : (Value.ref T.heap.size).category = 1 := rfl
  have hcellA : T1.heap[T.heap.size]? = some (freshCell cX kX) := by rw [← hT1]; exact State.heap_pushCell_size _ _
  have d3' : decode c.code (pc + 3) = .ok (.dup, 1) := by rw [hb]; exact d3
  have d4' : decode c.code (pc + 4) = .ok (.ldc_w is, 3) := by rw [hb]; exact d4
  have hstr' : vk_R own is text sa s' := vk_R.warm hW0 hstr
  obtain ⟨U, hsteps, hrun, hend, hW, hsame, ce, hce, hO⟩ := X₁.ctorThrowS hexec htr (own := own) (cls := cls) (names := names) (ic := ic) hown' hcls hnames h (fun x hx => nomatch hx) hfX hkX hcellA (by rw [hhp, hT]; exact Nat.le_refl _) (msg := .ref sa) rfl
    (g := { method := m, pc := pc + 7, locals := ls, stack := .ref sa :: .ref T.heap.size :: .ref T.heap.size :: rest, locked := none }) rfl hsize rfl rfl (rest := rest) rfl
    (by rw [hb]; exact d7) (by rw [hb]; exact d10) hout hRframes (by simp only [List.map_cons, List.sum_cons, hcat]; omega) hlocks
  obtain ⟨f1, f2⟩ := vx_frame hsame
  rw [hhp] at f1 f2
  have hWs : s.WarmedH U.vm := State.WarmedH.trans hW0 hW
  have hcl : s.vm.findClass cls = some ce.cls := by
    have h9 := hO.cls
    rw [hvm] at h9
    exact h9
  have hall : s.sameButNew ({ U with vm := s.vm } : State) locs mc ms := by
    subst hA
    obtain ⟨e1, e2⟩ := hsame
    rw [State.setFrames_setFrames] at e1
    have h2 : (T.setVm s.vm).sameButNew ({ U with vm := s.vm } : State) [] (0 + 1) (0 + 6) := ⟨e1, e2⟩
    have h3 := X.same.trans h2
    rw [List.append_nil] at h3
    exact h3.mono hc hs
  refine ⟨U, ?_, .threw T.heap.size, hrun, hend, Or.inr ⟨T.heap.size, rfl, cls, ce, locs, hx U hWs.alike f1 (fun q hq => f2 q hq (fun z hz => nomatch hz)), hce, hO.vm, hcl, hWs, hall, hf⟩⟩
  refine st1 _ ?_
  show Steps p.tables e below (T1.setTop { method := m, pc := pc + 3, locals := ls, stack := .ref T.heap.size :: rest, locked := none }) _
  jvm_step X₁.here [X₁.here.top, hexec, d3', Value.category]
  exact X₁.ldcStringW hexec (own := own) (text := text) (index := is) (a := sa) hown' hstr'.1 hstr'.2
    (g := { method := m, pc := pc + 4, locals := ls, stack := .ref T.heap.size :: .ref T.heap.size :: rest, locked := none }) rfl d4' _ hsteps
end Ends
section Bodies
variable {l : Launch}
theorem vx_ofW {y : MethodName} {ws ws' : List Cond} {rm : Room} {Pc : Array Value → State → Prop} {Qc : Array Value → State → Outcome → State → Prop} {XC : String → State → State → Prop} {mc ms : Nat} {free : Addr → Prop} {cc : ByteArray} {maxL : Nat} {ret : Option FieldType}
    (hy : plainName y.cls = true) (hw : ws = Cond.code y cc maxL ret :: ws')
    (body : ∀ p e s m args below meth c s₁, BodyLoose p l y (headSpec ws rm) cc maxL ret e s m args below meth c s₁ → c.maxLocals = maxL → (∀ x ∈ c.exceptionTable.toList, False) → Pc args s →
      W p l e (headSpec ws rm).room s m args below meth c s.heap [] 0 0 (vx_MQ below Qc XC args s mc ms free) (entryFrame m args maxL)) : vx_Met l y ws rm Pc Qc XC mc ms free := by
  refine MetFree.of_bodyS (code := cc) (maxLocals := maxL) (ret := ret) hy ?_ ?_
  · intro args s m h hn
    obtain ⟨meth, c, h1, h2, h3, h4, h5, h6, -, -⟩ := Cond.code_spec hn (atoms_spec (ws := ws) h _ (by rw [hw]; exact List.mem_cons_self))
    exact ⟨meth, c, h1, h2, h3, h4, h5, h6⟩
  · intro p e s m args below meth c s₁ B hml hP _
    have hh0 : s₁.heap = s.heap := by rw [B.state]; rfl
    have ht : ∀ x ∈ c.exceptionTable.toList, False := by
      obtain ⟨meth9, c9, h1, h2, -, -, -, -, h7, -⟩ := Cond.code_spec B.named (atoms_spec (ws := ws) B.pre _ (by rw [hw]; exact List.mem_cons_self))
      cases Option.some.inj (h1.symm.trans B.method)
      cases Option.some.inj (h2.symm.trans (Stand.of_body B).code)
      intro x hx
      rw [Array.isEmpty_iff.mp h7] at hx
      cases hx
    obtain ⟨t, a1, o, b1, b2, b3⟩ := body p e s m args below meth c s₁ B hml ht hP s₁ hh0 (Stand.of_body B)
    exact ⟨t, o, a1, b1, b2, b3⟩
/-- the table of a body with handlers -/
theorem vx_table {p : Program} {x y : MethodName} {S : Spec} {cc bytes : ByteArray} {maxL maxL' : Nat} {ret ret' : Option FieldType} {e : Env} {s s₁ : State} {m : MethodId} {args : Array Value} {below : List Frame} {meth : Method} {c : Code} {hh : List (Nat × Nat × Nat × Nat)}
    (B : BodyLoose p l y S cc maxL ret e s m args below meth c s₁) (h : (Cond.codeWith y bytes maxL' ret' hh).before args s = true) : c.exceptionTable.toList = tableOf hh := by
  obtain ⟨m9, meth9, c9, hn9, h1, h2, -, -, h6, -⟩ := Cond.codeWith_spec h
  cases Option.some.inj (hn9.symm.trans B.named)
  cases Option.some.inj (h1.symm.trans B.method)
  cases Option.some.inj (h2.symm.trans (Stand.of_body B).code)
  rw [← h6, table_eq]
end Bodies
end VXA
/-! ===== END ===== -/
/-! ===== BEGIN a static call of a method with an exception table ===== -/
section VXS
variable {p : Program} {l : Launch} {e : Env} {R : Room} {s : State} {m : MethodId} {args : Array Value} {below : List Frame} {meth : Method} {c : Code} {T : State} {H : Heap} {locs : List Loc} {cells slots : Nat}
abbrev vx_CSW (R : Room) (s : State) (args : Array Value) (own : String) (index : Nat) (y : MethodName) (bytes : ByteArray) (maxL : Nat) (ret : Option FieldType) (hh : List (Nat × Nat × Nat × Nat)) (ws : List Cond) (rm : Room) (mc ms n : Nat) : Prop :=
  (rm.cells = mc ∧ rm.slots = ms ∧ rm.frames + 1 ≤ R.frames ∧ 8 + (maxL + 11) + rm.locals ≤ R.locals ∧ (∀ w ∈ ws, ∀ (a' : Array Value) (U : State), s.WarmedH U.vm → w.before a' U = true) ∧ Cond.codeWith y bytes maxL ret hh ∈ ws) ∧
  (Cond.codeWith y bytes maxL ret hh).before args s = true ∧ (Cond.initialized y.cls).before args s = true ∧ (y.cls ≠ "java/lang/invoke/MethodHandle" ∧ y.cls ≠ "java/lang/invoke/VarHandle") ∧
  (∀ sig, parseMethodDescriptor y.desc = some sig → n = sig.parameters.length) ∧ (Cond.methodLink own index y).before args s = true ∧ (Cond.static y).before args s = true
theorem vx_cwSW {own : String} {index maxL mc ms : Nat} {y : MethodName} {bytes : ByteArray} {ret : Option FieldType} {hh : List (Nat × Nat × Nat × Nat)} {Ts ws ws' : List Cond} {rm : Room} (n : Nat) (ht : ∀ w ∈ Ts, w.before args s = true) (hT : GoodIn Ts (va_wsS own index y ws)) (hw : ws = Cond.codeWith y bytes maxL ret hh :: ws') (hrc : rm.cells = mc) (hrs : rm.slots = ms)
    (hd : y.cls ≠ "java/lang/invoke/MethodHandle" ∧ y.cls ≠ "java/lang/invoke/VarHandle" ∧ (parseMethodDescriptor y.desc).map (fun d => d.parameters.length) = some n) (hR : rm.frames + 1 ≤ R.frames ∧ 8 + (maxL + 11) + rm.locals ≤ R.locals) :
    vx_CSW R s args own index y bytes maxL ret hh ws rm mc ms n := by
  have ok : ∀ w ∈ va_wsS own index y ws, w.before args s = true := fun w h => ht w (hT w h).1
  have hG : GoodIn Ts ws := fun w h => hT w (by unfold va_wsS; exact List.mem_append_right _ h)
  have hc : Cond.codeWith y bytes maxL ret hh ∈ ws := by rw [hw]; exact List.mem_cons_self
  refine ⟨⟨hrc, hrs, hR.1, hR.2, pay_in ht hG, hc⟩, ht _ (hG _ hc).1, ok _ (by simp [va_wsS]), ⟨hd.1, hd.2.1⟩, fun sig h => ?_, ok _ (by simp [va_wsS]), ok _ (by simp [va_wsS])⟩
  have h2 := hd.2.2
  rw [h] at h2
  exact (Option.some.inj h2).symm
theorem vx_callSW (X : Stand p l e R s m args below meth c T locs cells slots) (hexec : p.tables.exec = Jvm.exec) {own : String} {index : Nat} {y : MethodName} {bytes : ByteArray} {maxL : Nat} {ret : Option FieldType} {hh : List (Nat × Nat × Nat × Nat)}
    (hown : s.vm.findClass own = some m.cls) (hlink : (Cond.methodLink own index y).before args s = true) (hstat : (Cond.static y).before args s = true) (hinit : (Cond.initialized y.cls).before args s = true)
    (hcode : (Cond.codeWith y bytes maxL ret hh).before args s = true) (hy : y.cls ≠ "java/lang/invoke/MethodHandle" ∧ y.cls ≠ "java/lang/invoke/VarHandle")
    {W9 : Nat} {Pre : Pt → Array Value → Prop} {Post : Pt → Array Value → Option Value → Pt → Prop} (hK : Back l R p e below s args y 3 W9 Pre Post)
    {g : JFrame} (hg : g.method = m) (hsize : g.locals.size = c.maxLocals) {argsL rest : List Value} (hlen : ∀ sig, parseMethodDescriptor y.desc = some sig → argsL.length = sig.parameters.length)
    (hstack : g.stack = argsL.reverse ++ rest) (hW : 2 * g.monitorRoom + (rest.map fun v => v.category).sum ≤ W9) (hdg : decode c.code g.pc = .ok (.invokestatic index, 3))
    (hpre : ∀ vm₁, s.WarmedH vm₁ → Pre ⟨T.setVm vm₁, locs, cells, slots⟩ argsL.toArray) :
    ∃ (v : Option Value) (vm₁ : Vm) (B : Pt), s.WarmedH vm₁ ∧ Stand p l e R s m args below meth c B.U B.locs B.cells B.slots ∧ Post ⟨T.setVm vm₁, locs, cells, slots⟩ argsL.toArray v B ∧
      ∀ target, Steps p.tables e below (B.U.setTop { g with pc := g.pc + 3, stack := v.toList ++ rest }) target → Steps p.tables e below (T.setTop g) target := by
  obtain ⟨mk, methM, cM, hnamed, hmethM, -, -, -, -, -, -, hsigM⟩ := Cond.codeWith_spec hcode
  have hstatic : methM.isStatic = true := Cond.static_spec hnamed hmethM hstat
  obtain ⟨kP, hkP, -⟩ := className_of_methodNamed hnamed
  have hinitP : kP.init = .initialized := Cond.initialized_spec (findClass_of_methodNamed hnamed) hkP hinit
  obtain ⟨vm₁, X₁, hstep₁⟩ := X.invokestatic hexec hown hlink hnamed hmethM hstatic hkP hinitP hy (g := g) hg (argsL := argsL) (rest := rest) (hlen _ hsigM) hstack hdg
  obtain ⟨v, B, X', hpost, hsteps⟩ := hK m meth c ⟨T.setVm vm₁, locs, cells, slots⟩ { g with stack := rest } (.invokestatic index) mk argsL.toArray X₁ hg hsize hdg hW (X₁.named hnamed) (hpre vm₁ X₁.warmed)
  exact ⟨v, vm₁, B, X₁.warmed, X', hpost, fun target h => hstep₁ _ fun acts => by rw [doInvoke_state]; exact hsteps.trans h⟩
theorem vx_runSW {y : MethodName} {bytes cc : ByteArray} {maxL nL mc ms n index : Nat} {ret : Option FieldType} {hh : List (Nat × Nat × Nat × Nat)} {ws : List Cond} {rm : Room} {Pc : Array Value → State → Prop} {Qc : Array Value → State → Outcome → State → Prop} {free : Addr → Prop} {Ts : List Cond} {own : String} {As rest : List Value} {g : JFrame}
    (S : CallFix p m c cc nL s args Ts own) (hM : Met l y ws rm Pc Qc mc ms free) (cw : vx_CSW R s args own index y bytes maxL ret hh ws rm mc ms n) (hp : PreS s H Pc As)
    (hg : g.method = m) (hn : As.length = n) (hsize : g.locals.size = nL) (hstack : g.stack = As.reverse ++ rest) (hW : 2 * g.monitorRoom + (rest.map fun v => v.category).sum ≤ 8) (hdg : decode cc g.pc = .ok (.invokestatic index, 3)) (hf : cells + mc ≤ R.cells ∧ slots + ms ≤ R.slots) :
    va_Run p l e R s m args below meth c H locs cells slots mc ms g rest (Qc As.toArray) (free) := by
  obtain ⟨⟨hrc, hrs, hfr, hlo, hws, hcw⟩, hcode, hini, hy, hlen, hl, hstt⟩ := cw
  have hK : Back l R p e below s args y 3 8 (PreOf R mc ms Pc) (PostOf Qc mc ms free) := va_backW (hh := hh) (bytes := bytes) (maxL := maxL) (ret := ret) hM hp.1 hrc hrs hfr hlo hws hcw (fun a' U hW => word_at hW (Or.inl (by first | rfl | simp [Cond.onTables, Cond.keeps, Cond.steady])) hini)
  obtain ⟨hx, hb, hml, ho, -⟩ := S
  intro T hT X
  obtain ⟨v, vm₁, ⟨U', l2, c2, s2⟩, hW₁, X', ⟨g', mk, t, L, e1, e2, hq, h1, hL, h2, h3⟩, st⟩ := vx_callSW X hx (hh := hh) (bytes := bytes) (maxL := maxL) (ret := ret) ho hl hstt hini hcode hy hK hg (hsize.trans hml.symm) (argsL := As) (rest := rest) (fun sig h => hn.trans (hlen sig h)) hstack hW (by rw [hb]; exact hdg)
    (fun vm₁ hW₁ => ⟨hf.1, hf.2, hp.2 (T.setVm vm₁) hT hW₁⟩)
  dsimp only [Pt.U, Pt.locs, Pt.cells, Pt.slots] at X' e1 e2 h1 h2 h3 st
  subst h1; subst h2; subst h3
  exact ⟨v, (T.setVm vm₁).calling g' mk As.toArray, t, U', L, hT, X', hL, e1, e2, hq, st⟩
/-- not caught here, past rows that name other classes: it goes on to the caller -/
theorem vx_outP {p : Program} {l : Launch} {e : Env} {R : Room} {s : State} {m : MethodId} {args : Array Value} {below : List Frame} {meth : Method} {c : Code} {H : Heap} {locs : List Loc} {cells slots : Nat} {free : Addr → Prop} {ls : Array Slot} {rest : List Value} {Qc : Array Value → State → Outcome → State → Prop} {XC : String → State → State → Prop}
    {pc : Nat} {own E : String} {ce : Cell} {q : Addr} {mc ms : Nat} (hown : s.vm.findClass own = some m.cls) (hlocks : meth.locks = false)
    (hpass : ∀ z ∈ c.exceptionTable.toList, covers z pc = false ∨ (z.catchType ≠ 0 ∧ ∃ nm : String, (Cond.classLink own z.catchType nm).before args s = true ∧ va_Nc E nm s)) (hcell : H[q]? = some ce) (hv : ce.vm = .none) (hcl : s.vm.findClass E = some ce.cls)
    (hx : ∀ t : State, t.heap = H → s.vm.Alike t.vm → XC E s t) (hf : ∀ z ∈ locs, free z.base) (hc : cells ≤ mc) (hs : slots ≤ ms) :
    vx_W p l e R s m args below meth c H locs cells slots (vx_MQ below Qc XC args s mc ms free) (F0 m pc ls rest) q := by
  intro T hT X
  have hpl : e.platform.magicAccessors = ({} : Platform).magicAccessors := by rw [X.admits.platform]
  obtain ⟨vm', hW', X', st⟩ := X.outThrough hlocks q (g := F0 m pc ls rest) rfl rfl rfl (cell := ce) (by rw [hT]; exact hcell) (by rw [hv]; rfl)
    (by obtain ⟨k9, h9, -⟩ := Vm.findClass_spec hcl; exact ⟨k9, h9⟩) (fun z hz => by
      rcases hpass z hz with h | ⟨hz0, nm, hl1, hn1⟩
      · exact Or.inl h
      · obtain ⟨c6, hc6, hcl6⟩ := Cond.classLink_spec hown hl1 e.platform hpl
        obtain ⟨a8, b8, h1, h2, h3⟩ := hn1
        cases Option.some.inj (h1.symm.trans hcl)
        cases Option.some.inj (h2.symm.trans hc6)
        exact Or.inr ⟨hz0, _, hcl6, h3⟩)
  obtain ⟨g₀, hfr⟩ := X'.frames_eq
  have hcell9 : ((T.setVm vm').setFrames (.throwing q :: below)).heap[q]? = some ce := by
    show T.heap[q]? = some ce
    rw [hT]; exact hcell
  have hend : Ended ((T.setVm vm').setFrames (.throwing q :: below)) below (.threw q) := State.frames_setFrames _ (State.cur_lt_of_frames hfr)
  refine ⟨(T.setVm vm').setFrames (.throwing q :: below), ?_, .threw q, X'.here.running, hend, Or.inr ⟨q, rfl, E, ce, locs, hx _ hT (X'.ends _).1.alike, hcell9, hv, hcl, (X'.ends _).1, (X'.ends _).2.mono hc hs, hf⟩⟩
  rw [X.pushThrowing_eq]
  exact st
/-- a thing of a world lies in the heap -/
theorem vx_lt {D : va_G} {cl : List vw_C} {ws : va_W} {H1 : Heap} (h : va_P D cl ws H1) {k : Nat} {q : Nat × va_E} (hk : ws[k]? = some q) : q.1 < H1.size := (h k q hk).lt
end VXS
/-! ===== END ===== -/
/-! ===== BEGIN methods with a table of their own: called by a name, returning or throwing ===== -/
section VXH
/-! vx_backW, vx_callVX, vx_callSX, vx_callVW, vx_runVW, vx_runVX, vx_runSX, vx_ofWH follow the same proofs as their sisters above (Free/Laws.lean, Shelf42/LK1.lean); vx_outP calls Shelf42/NT130.lean (outThrough). -/
section
variable {l : Launch} {R : Room} {p : Program} {e : Env} {below : List Frame} {s : State} {sargs : Array Value} {y : MethodName} {len W9 : Nat}
theorem vx_backW {ws : List Cond} {rm : Room} {Pc : Array Value → State → Prop} {Qc : Array Value → State → Outcome → State → Prop} {XC : String → State → State → Prop} {mc ms : Nat} {free : Addr → Prop} {bytes : ByteArray} {maxL : Nat} {ret : Option FieldType} {hh : List (Nat × Nat × Nat × Nat)}
    (hM : vx_Met l y ws rm Pc Qc XC mc ms free) (hblind : FrameBlind Pc) (hrc : rm.cells = mc) (hrs : rm.slots = ms)
    (hframes : rm.frames + 1 ≤ R.frames) (hlocals : W9 + (maxL + 11) + rm.locals ≤ R.locals)
    (hws : ∀ w ∈ ws, ∀ a' U, s.WarmedH U.vm → w.before a' U = true) (hcode : Cond.codeWith y bytes maxL ret hh ∈ ws) (hinit : ∀ a' U, s.WarmedH U.vm → (Cond.initialized y.cls).before a' U = true) :
    vx_Back l R p e below s sargs y len W9 (PreOf R mc ms Pc) (PostOf Qc mc ms free) (vx_Post XC mc ms free) := by
  intro m meth c A g ig mk a X hg hsize hdg hW hn hp
  have h1 : (headSpec ws rm).pre.before a A.U = true := atoms_intro fun w hw => hws w hw _ _ X.warmed
  have h2 : (Cond.codeWith y bytes maxL ret hh).before a A.U = true := hws _ hcode _ _ X.warmed
  have h3 : (Cond.initialized y.cls).before a A.U = true := hinit _ _ X.warmed
  have h4 : A.cells + (headSpec ws rm).room.cells ≤ R.cells := by rw [show (headSpec ws rm).room.cells = mc from hrc]; exact hp.1
  have h5 : A.slots + (headSpec ws rm).room.slots ≤ R.slots := by rw [show (headSpec ws rm).room.slots = ms from hrs]; exact hp.2.1
  have hPc : Pc a (A.U.calling g mk a) := hblind _ _ _ _ hp.2.2
  obtain ⟨U, Ls, c0, s0⟩ := A
  dsimp only [Pt.U, Pt.locs, Pt.cells, Pt.slots] at h1 h2 h3 h4 h5 X hn hPc ⊢
  obtain ⟨m9, methY, cY, hn9, hmY, hcY, -, hlY, -⟩ := Cond.codeWith_spec h2
  cases Option.some.inj (hn9.symm.trans hn)
  obtain ⟨kY, hkY, -⟩ := className_of_methodNamed hn
  have hinitY : kY.init = .initialized := Cond.initialized_spec (findClass_of_methodNamed hn) hkY h3
  have h : At U g.method c below := by rw [hg]; exact X.here
  have hlocals9 : W9 + (maxL + 11) + (headSpec ws rm).room.locals ≤ R.locals := hlocals
  have happ : (headSpec ws rm).appliesLoose y e.platform (U.calling g mk a) = true :=
    Spec.appliesLoose_calling (g := g) h hdg hn hkY hinitY
      (X.room_calling (g := g) (R' := (headSpec ws rm).room) hsize hmY hcY hframes (by rw [hlY]; omega) h4 h5) h1
  obtain ⟨mid, hmid⟩ := h.above
  have hfr : (U.setTop g).frames = (.java g :: mid) ++ below := by rw [State.frames_setTop' g h.top, hmid]; rfl
  obtain ⟨o, s₂, hsteps, -, hend, hq⟩ := Steps.callFree hM p X.admits X.cas X.clock (acts := []) hfr happ hPc trivial
  have hq' : vx_Q Qc XC mc ms free a (U.calling g mk a) o s₂ := hq
  rw [State.frames_setTop' g h.top] at hend
  obtain ⟨g₀, hg0⟩ := Option.isSome_iff_exists.mp h.top
  obtain ⟨r, hr⟩ := State.topJava?_eq_some.mp hg0
  have hr' : (({ U with heap := s₂.heap, slotsUsed := s₂.slotsUsed } : State).setVm s₂.vm).frames = .java g₀ :: r := hr
  rcases hq' with ⟨hqc, L, hfe, hL⟩ | ⟨q, rfl, E, ce, L, hx, hce, hcv, hcl, hW₂, hsm, hL⟩
  · obtain ⟨⟨v, rfl⟩, hW₂, e2, q2, q3, q4, q5, q6⟩ := id hfe
    have e3 : s₂ = ({ (U.calling g mk a).setFrames s₂.frames with heap := s₂.heap, slotsUsed := s₂.slotsUsed } : State).setVm s₂.vm := by
      have : s₂ = ({ s₂ with vm := (U.calling g mk a).vm } : State).setVm s₂.vm := rfl
      rw [e2] at this
      exact this
    obtain ⟨c₂, i₂, len₂, hc₂, hd₂, hf₂⟩ := hend
    have hW' : U.WarmedH s₂.vm := hW₂
    have hcc : c₂ = c := by
      have h1 : s₂.code? g.method = U.code? g.method := by
        rw [State.code?_eq, State.code?_eq, hW'.alike.method?]
      exact Option.some.inj (hc₂.symm.trans (h1.trans h.code))
    subst hcc
    have hlen : len₂ = len := by rw [hdg] at hd₂; cases hd₂; rfl
    subst hlen
    have hs₂ : s₂ = (({ U with heap := s₂.heap, slotsUsed := s₂.slotsUsed } : State).setVm s₂.vm).setTop { g with pc := g.pc + len₂, stack := v.toList ++ g.stack } := by
      refine e3.trans ?_
      rw [hf₂, State.calling_eq h.top, State.setFrames_setFrames, State.setTop_of_frames _ hr', hr]
      rfl
    have hsame : U.sameButNew ({ U with heap := s₂.heap, slotsUsed := s₂.slotsUsed } : State) L mc ms := by
      refine ⟨?_, q2, q3, q4, q5, q6⟩
      obtain ⟨t, ht, -⟩ := State.frames_cons hr
      show ({ U with heap := s₂.heap, slotsUsed := s₂.slotsUsed } : State) = { U.setFrames U.frames with heap := s₂.heap, slotsUsed := s₂.slotsUsed }
      rw [State.setFrames_self ht]
    subst hg
    refine Or.inl ⟨v, ⟨(({ U with heap := s₂.heap, slotsUsed := s₂.slotsUsed } : State).setVm s₂.vm), Ls ++ L, c0 + mc, s0 + ms⟩,
      ⟨X.admits, X.cas, X.clock, X.frames, X.room, X.hears, X.method, X.code, (X.here.setHeapUsed s₂.heap s₂.slotsUsed).setVm hW'.alike, X.tail, State.WarmedH.trans X.warmed hW', X.limits, X.bytes, X.same.trans (hsame.setVm s.vm)⟩,
      ⟨g, mk, s₂, L, rfl, rfl, hqc, rfl, hL, rfl, rfl⟩, ?_⟩
    show Steps p.tables e below _ ((({ U with heap := s₂.heap, slotsUsed := s₂.slotsUsed } : State).setVm s₂.vm).setTop { g with pc := g.pc + len₂, stack := v.toList ++ g.stack })
    rw [← hs₂]
    exact hsteps
  · obtain ⟨e2, q2, q3, q4, q5, q6⟩ := id hsm
    have e3 : s₂ = ({ (U.calling g mk a).setFrames s₂.frames with heap := s₂.heap, slotsUsed := s₂.slotsUsed } : State).setVm s₂.vm := by
      have : s₂ = ({ s₂ with vm := (U.calling g mk a).vm } : State).setVm s₂.vm := rfl
      rw [e2] at this
      exact this
    have hf₂ : s₂.frames = .throwing q :: .java g :: U.frames.tail := hend
    have hW' : U.WarmedH s₂.vm := hW₂
    have hs₂ : s₂ = ((({ U with heap := s₂.heap, slotsUsed := s₂.slotsUsed } : State).setVm s₂.vm).setTop g).pushFrame (.throwing q) := by
      refine e3.trans ?_
      rw [hf₂, State.calling_eq h.top, State.setFrames_setFrames, State.pushFrame, State.frames_setTop _ hr', State.setTop_of_frames _ hr', State.setFrames_setFrames, hr]
      rfl
    have hsame : U.sameButNew ({ U with heap := s₂.heap, slotsUsed := s₂.slotsUsed } : State) L mc ms := by
      refine ⟨?_, q2, q3, q4, q5, q6⟩
      obtain ⟨t, ht, -⟩ := State.frames_cons hr
      show ({ U with heap := s₂.heap, slotsUsed := s₂.slotsUsed } : State) = { U.setFrames U.frames with heap := s₂.heap, slotsUsed := s₂.slotsUsed }
      rw [State.setFrames_self ht]
    subst hg
    refine Or.inr ⟨q, ⟨(({ U with heap := s₂.heap, slotsUsed := s₂.slotsUsed } : State).setVm s₂.vm), Ls ++ L, c0 + mc, s0 + ms⟩,
      ⟨X.admits, X.cas, X.clock, X.frames, X.room, X.hears, X.method, X.code, (X.here.setHeapUsed s₂.heap s₂.slotsUsed).setVm hW'.alike, X.tail, State.WarmedH.trans X.warmed hW', X.limits, X.bytes, X.same.trans (hsame.setVm s.vm)⟩,
      ⟨g, mk, s₂, L, E, ce, rfl, rfl, hx, hce, hcv, hcl, rfl, hL, rfl, rfl⟩, ?_⟩
    show Steps p.tables e below _ (((({ U with heap := s₂.heap, slotsUsed := s₂.slotsUsed } : State).setVm s₂.vm).setTop g).pushFrame (.throwing q))
    rw [← hs₂]
    exact hsteps
end
variable {p : Program} {l : Launch} {e : Env} {R : Room} {s : State} {m : MethodId} {args : Array Value} {below : List Frame} {meth : Method} {c : Code} {T : State} {H : Heap} {locs : List Loc} {cells slots : Nat}
theorem vx_callVX (X : Stand p l e R s m args below meth c T locs cells slots) (hexec : p.tables.exec = Jvm.exec) {own C : String} {index : Nat} {y : MethodName} {bytes : ByteArray} {maxL : Nat} {ret : Option FieldType} {hh : List (Nat × Nat × Nat × Nat)}
    (hown : s.vm.findClass own = some m.cls) (hlink : (Cond.methodLink own index y).before args s = true) (hinst : (Cond.instanceMethod y).before args s = true) (hsel : (Cond.selects C y y).before args s = true)
    (hcode : (Cond.codeWith y bytes maxL ret hh).before args s = true) (hy : y.cls ≠ "java/lang/invoke/MethodHandle" ∧ y.cls ≠ "java/lang/invoke/VarHandle")
    {W9 : Nat} {Pre : Pt → Array Value → Prop} {Post : Pt → Array Value → Option Value → Pt → Prop} {PostX : Pt → Array Value → Addr → Pt → Prop} (hK : vx_Back l R p e below s args y 3 W9 Pre Post PostX)
    {b : Addr} {cellB : Cell} (hcell : T.heap[b]? = some cellB) (hobj : cellB.vm.isStatics = false) (hcls : s.vm.findClass C = some cellB.cls)
    {g : JFrame} (hg : g.method = m) (hsize : g.locals.size = c.maxLocals) {argsL rest : List Value} (hlen : ∀ sig, parseMethodDescriptor y.desc = some sig → argsL.length = sig.parameters.length)
    (hstack : g.stack = argsL.reverse ++ .ref b :: rest) (hW : 2 * g.monitorRoom + (rest.map fun v => v.category).sum ≤ W9) (hdg : decode c.code g.pc = .ok (.invokevirtual index, 3))
    (hpre : ∀ vm₁, s.WarmedH vm₁ → Pre ⟨T.setVm vm₁, locs, cells, slots⟩ (Value.ref b :: argsL).toArray) :
    (∃ (v : Option Value) (vm₁ : Vm) (B : Pt), s.WarmedH vm₁ ∧ Stand p l e R s m args below meth c B.U B.locs B.cells B.slots ∧ Post ⟨T.setVm vm₁, locs, cells, slots⟩ (Value.ref b :: argsL).toArray v B ∧
      ∀ target, Steps p.tables e below (B.U.setTop { g with pc := g.pc + 3, stack := v.toList ++ rest }) target → Steps p.tables e below (T.setTop g) target) ∨
    (∃ (q : Addr) (vm₁ : Vm) (B : Pt), s.WarmedH vm₁ ∧ Stand p l e R s m args below meth c B.U B.locs B.cells B.slots ∧ PostX ⟨T.setVm vm₁, locs, cells, slots⟩ (Value.ref b :: argsL).toArray q B ∧
      Steps p.tables e below (T.setTop g) ((B.U.setTop { g with stack := rest }).pushFrame (.throwing q))) := by
  obtain ⟨mk, methM, hnamed, hmethM, hstM, habM⟩ := Cond.instanceMethod_spec hinst
  obtain ⟨m8, methM', cM, hn8, hmethM', -, -, -, -, -, -, hsigM⟩ := Cond.codeWith_spec hcode
  cases Option.some.inj (hn8.symm.trans hnamed)
  cases hmethM.symm.trans hmethM'
  obtain ⟨c2, r2, m2, q1, q2, q3, q4, kP, hkP, hkPi⟩ := Cond.selects_spec hsel
  cases hcls.symm.trans q1
  cases (State.methodFound?_of_named hnamed hy).symm.trans q2
  cases hnamed.symm.trans q3
  have hselP : selectMethod e.platform s.vm cellB.cls mk = .method mk := by rw [Launch.admits_selectMethod X.admits]; exact q4
  obtain ⟨vm₁, X₁, hstep₁⟩ := X.invokevirtual hexec hown hlink hnamed hmethM hstM hkP hkPi hy (a := b) (cell := cellB) hcell
    (fun z h => by rw [h] at hobj; cases hobj) hselP hmethM habM hkP hkPi (g := g) hg (argsL := argsL) (rest := rest) (hlen _ hsigM) hstack hdg
  rcases hK m meth c ⟨T.setVm vm₁, locs, cells, slots⟩ { g with stack := rest } (.invokevirtual index) mk (Value.ref b :: argsL).toArray X₁ hg hsize hdg hW (X₁.named hnamed) (hpre vm₁ X₁.warmed) with ⟨v, B, X', hpost, hsteps⟩ | ⟨q, B, X', hpost, hsteps⟩
  · exact Or.inl ⟨v, vm₁, B, X₁.warmed, X', hpost, fun target h => hstep₁ _ fun acts => by rw [doInvoke_state]; exact hsteps.trans h⟩
  · exact Or.inr ⟨q, vm₁, B, X₁.warmed, X', hpost, hstep₁ _ fun acts => by rw [doInvoke_state]; exact hsteps⟩
theorem vx_callSX (X : Stand p l e R s m args below meth c T locs cells slots) (hexec : p.tables.exec = Jvm.exec) {own : String} {index : Nat} {y : MethodName} {bytes : ByteArray} {maxL : Nat} {ret : Option FieldType} {hh : List (Nat × Nat × Nat × Nat)}
    (hown : s.vm.findClass own = some m.cls) (hlink : (Cond.methodLink own index y).before args s = true) (hstat : (Cond.static y).before args s = true) (hinit : (Cond.initialized y.cls).before args s = true)
    (hcode : (Cond.codeWith y bytes maxL ret hh).before args s = true) (hy : y.cls ≠ "java/lang/invoke/MethodHandle" ∧ y.cls ≠ "java/lang/invoke/VarHandle")
    {W9 : Nat} {Pre : Pt → Array Value → Prop} {Post : Pt → Array Value → Option Value → Pt → Prop} {PostX : Pt → Array Value → Addr → Pt → Prop} (hK : vx_Back l R p e below s args y 3 W9 Pre Post PostX)
    {g : JFrame} (hg : g.method = m) (hsize : g.locals.size = c.maxLocals) {argsL rest : List Value} (hlen : ∀ sig, parseMethodDescriptor y.desc = some sig → argsL.length = sig.parameters.length)
    (hstack : g.stack = argsL.reverse ++ rest) (hW : 2 * g.monitorRoom + (rest.map fun v => v.category).sum ≤ W9) (hdg : decode c.code g.pc = .ok (.invokestatic index, 3))
    (hpre : ∀ vm₁, s.WarmedH vm₁ → Pre ⟨T.setVm vm₁, locs, cells, slots⟩ argsL.toArray) :
    (∃ (v : Option Value) (vm₁ : Vm) (B : Pt), s.WarmedH vm₁ ∧ Stand p l e R s m args below meth c B.U B.locs B.cells B.slots ∧ Post ⟨T.setVm vm₁, locs, cells, slots⟩ argsL.toArray v B ∧
      ∀ target, Steps p.tables e below (B.U.setTop { g with pc := g.pc + 3, stack := v.toList ++ rest }) target → Steps p.tables e below (T.setTop g) target) ∨
    (∃ (q : Addr) (vm₁ : Vm) (B : Pt), s.WarmedH vm₁ ∧ Stand p l e R s m args below meth c B.U B.locs B.cells B.slots ∧ PostX ⟨T.setVm vm₁, locs, cells, slots⟩ argsL.toArray q B ∧
      Steps p.tables e below (T.setTop g) ((B.U.setTop { g with stack := rest }).pushFrame (.throwing q))) := by
  obtain ⟨mk, methM, cM, hnamed, hmethM, -, -, -, -, -, -, hsigM⟩ := Cond.codeWith_spec hcode
  have hstatic : methM.isStatic = true := Cond.static_spec hnamed hmethM hstat
  obtain ⟨kP, hkP, -⟩ := className_of_methodNamed hnamed
  have hinitP : kP.init = .initialized := Cond.initialized_spec (findClass_of_methodNamed hnamed) hkP hinit
  obtain ⟨vm₁, X₁, hstep₁⟩ := X.invokestatic hexec hown hlink hnamed hmethM hstatic hkP hinitP hy (g := g) hg (argsL := argsL) (rest := rest) (hlen _ hsigM) hstack hdg
  rcases hK m meth c ⟨T.setVm vm₁, locs, cells, slots⟩ { g with stack := rest } (.invokestatic index) mk argsL.toArray X₁ hg hsize hdg hW (X₁.named hnamed) (hpre vm₁ X₁.warmed) with ⟨v, B, X', hpost, hsteps⟩ | ⟨q, B, X', hpost, hsteps⟩
  · exact Or.inl ⟨v, vm₁, B, X₁.warmed, X', hpost, fun target h => hstep₁ _ fun acts => by rw [doInvoke_state]; exact hsteps.trans h⟩
  · exact Or.inr ⟨q, vm₁, B, X₁.warmed, X', hpost, hstep₁ _ fun acts => by rw [doInvoke_state]; exact hsteps⟩
theorem vx_callVW (X : Stand p l e R s m args below meth c T locs cells slots) (hexec : p.tables.exec = Jvm.exec) {own C : String} {index : Nat} {y : MethodName} {bytes : ByteArray} {maxL : Nat} {ret : Option FieldType} {hh : List (Nat × Nat × Nat × Nat)}
    (hown : s.vm.findClass own = some m.cls) (hlink : (Cond.methodLink own index y).before args s = true) (hinst : (Cond.instanceMethod y).before args s = true) (hsel : (Cond.selects C y y).before args s = true)
    (hcode : (Cond.codeWith y bytes maxL ret hh).before args s = true) (hy : y.cls ≠ "java/lang/invoke/MethodHandle" ∧ y.cls ≠ "java/lang/invoke/VarHandle")
    {W9 : Nat} {Pre : Pt → Array Value → Prop} {Post : Pt → Array Value → Option Value → Pt → Prop} (hK : Back l R p e below s args y 3 W9 Pre Post)
    {b : Addr} {cellB : Cell} (hcell : T.heap[b]? = some cellB) (hobj : cellB.vm.isStatics = false) (hcls : s.vm.findClass C = some cellB.cls)
    {g : JFrame} (hg : g.method = m) (hsize : g.locals.size = c.maxLocals) {argsL rest : List Value} (hlen : ∀ sig, parseMethodDescriptor y.desc = some sig → argsL.length = sig.parameters.length)
    (hstack : g.stack = argsL.reverse ++ .ref b :: rest) (hW : 2 * g.monitorRoom + (rest.map fun v => v.category).sum ≤ W9) (hdg : decode c.code g.pc = .ok (.invokevirtual index, 3))
    (hpre : ∀ vm₁, s.WarmedH vm₁ → Pre ⟨T.setVm vm₁, locs, cells, slots⟩ (Value.ref b :: argsL).toArray) :
    ∃ (v : Option Value) (vm₁ : Vm) (B : Pt), s.WarmedH vm₁ ∧ Stand p l e R s m args below meth c B.U B.locs B.cells B.slots ∧ Post ⟨T.setVm vm₁, locs, cells, slots⟩ (Value.ref b :: argsL).toArray v B ∧
      ∀ target, Steps p.tables e below (B.U.setTop { g with pc := g.pc + 3, stack := v.toList ++ rest }) target → Steps p.tables e below (T.setTop g) target := by
  obtain ⟨mk, methM, hnamed, hmethM, hstM, habM⟩ := Cond.instanceMethod_spec hinst
  obtain ⟨m8, methM', cM, hn8, hmethM', -, -, -, -, -, -, hsigM⟩ := Cond.codeWith_spec hcode
  cases Option.some.inj (hn8.symm.trans hnamed)
  cases hmethM.symm.trans hmethM'
  obtain ⟨c2, r2, m2, q1, q2, q3, q4, kP, hkP, hkPi⟩ := Cond.selects_spec hsel
  cases hcls.symm.trans q1
  cases (State.methodFound?_of_named hnamed hy).symm.trans q2
  cases hnamed.symm.trans q3
  have hselP : selectMethod e.platform s.vm cellB.cls mk = .method mk := by rw [Launch.admits_selectMethod X.admits]; exact q4
  obtain ⟨vm₁, X₁, hstep₁⟩ := X.invokevirtual hexec hown hlink hnamed hmethM hstM hkP hkPi hy (a := b) (cell := cellB) hcell
    (fun z h => by rw [h] at hobj; cases hobj) hselP hmethM habM hkP hkPi (g := g) hg (argsL := argsL) (rest := rest) (hlen _ hsigM) hstack hdg
  obtain ⟨v, B, X', hpost, hsteps⟩ := hK m meth c ⟨T.setVm vm₁, locs, cells, slots⟩ { g with stack := rest } (.invokevirtual index) mk (Value.ref b :: argsL).toArray X₁ hg hsize hdg hW (X₁.named hnamed) (hpre vm₁ X₁.warmed)
  exact ⟨v, vm₁, B, X₁.warmed, X', hpost, fun target h => hstep₁ _ fun acts => by rw [doInvoke_state]; exact hsteps.trans h⟩
abbrev vx_CVW (R : Room) (s : State) (args : Array Value) (own C : String) (index : Nat) (y : MethodName) (bytes : ByteArray) (maxL : Nat) (ret : Option FieldType) (hh : List (Nat × Nat × Nat × Nat)) (ws : List Cond) (rm : Room) (mc ms n : Nat) : Prop :=
  (rm.cells = mc ∧ rm.slots = ms ∧ rm.frames + 1 ≤ R.frames ∧ 8 + (maxL + 11) + rm.locals ≤ R.locals ∧ (∀ w ∈ ws, ∀ (a' : Array Value) (U : State), s.WarmedH U.vm → w.before a' U = true) ∧ Cond.codeWith y bytes maxL ret hh ∈ ws) ∧
  (Cond.codeWith y bytes maxL ret hh).before args s = true ∧ (Cond.initialized y.cls).before args s = true ∧ (y.cls ≠ "java/lang/invoke/MethodHandle" ∧ y.cls ≠ "java/lang/invoke/VarHandle") ∧
  (∀ sig, parseMethodDescriptor y.desc = some sig → n = sig.parameters.length) ∧ (Cond.methodLink own index y).before args s = true ∧ (Cond.instanceMethod y).before args s = true ∧ (Cond.selects C y y).before args s = true
theorem vx_cwVW {own C : String} {index maxL mc ms : Nat} {y : MethodName} {bytes : ByteArray} {ret : Option FieldType} {hh : List (Nat × Nat × Nat × Nat)} {Ts ws ws' : List Cond} {rm : Room} (n : Nat) (ht : ∀ w ∈ Ts, w.before args s = true) (hT : GoodIn Ts (wsV own index C y ws)) (hw : ws = Cond.codeWith y bytes maxL ret hh :: ws') (hrc : rm.cells = mc) (hrs : rm.slots = ms)
    (hd : y.cls = C ∧ y.cls ≠ "java/lang/invoke/MethodHandle" ∧ y.cls ≠ "java/lang/invoke/VarHandle" ∧ (parseMethodDescriptor y.desc).map (fun d => d.parameters.length) = some n) (hR : rm.frames + 1 ≤ R.frames ∧ 8 + (maxL + 11) + rm.locals ≤ R.locals) :
    vx_CVW R s args own C index y bytes maxL ret hh ws rm mc ms n := by
  obtain ⟨hC, hd⟩ := hd
  subst hC
  have ok : ∀ w ∈ wsV own index y.cls y ws, w.before args s = true := fun w h => ht w (hT w h).1
  have hG : GoodIn Ts ws := fun w h => hT w (by unfold wsV; exact List.mem_append_right _ h)
  have hc : Cond.codeWith y bytes maxL ret hh ∈ ws := by rw [hw]; exact List.mem_cons_self
  refine ⟨⟨hrc, hrs, hR.1, hR.2, pay_in ht hG, hc⟩, ht _ (hG _ hc).1, ok _ (by simp [wsV]), ⟨hd.1, hd.2.1⟩, fun sig h => ?_, ok _ (by simp [wsV]), ok _ (by simp [wsV]), ok _ (by simp [wsV])⟩
  have h2 := hd.2.2
  rw [h] at h2
  exact (Option.some.inj h2).symm
theorem vx_runVW {y : MethodName} {bytes cc : ByteArray} {maxL nL mc ms n index : Nat} {ret : Option FieldType} {hh : List (Nat × Nat × Nat × Nat)} {ws : List Cond} {rm : Room} {Pc : Array Value → State → Prop} {Qc : Array Value → State → Outcome → State → Prop} {free : Addr → Prop} {Ts : List Cond} {own C : String} {b : Addr} {As rest : List Value} {g : JFrame}
    (S : CallFix p m c cc nL s args Ts own) (hM : Met l y ws rm Pc Qc mc ms free) (cw : vx_CVW R s args own C index y bytes maxL ret hh ws rm mc ms n) (hp : PreV s H C b Pc As)
    (hg : g.method = m) (hn : As.length = n) (hsize : g.locals.size = nL) (hstack : g.stack = As.reverse ++ .ref b :: rest) (hW : 2 * g.monitorRoom + (rest.map fun v => v.category).sum ≤ 8) (hdg : decode cc g.pc = .ok (.invokevirtual index, 3)) (hf : cells + mc ≤ R.cells ∧ slots + ms ≤ R.slots) :
    va_Run p l e R s m args below meth c H locs cells slots mc ms g rest (Qc (Value.ref b :: As).toArray) free := by
  obtain ⟨⟨hrc, hrs, hfr, hlo, hws, hcw⟩, hcode, hini, hy, hlen, hl, hin, hse⟩ := cw
  have hK : Back l R p e below s args y 3 8 (PreOf R mc ms Pc) (PostOf Qc mc ms free) := va_backW (hh := hh) (bytes := bytes) (maxL := maxL) (ret := ret) hM hp.1 hrc hrs hfr hlo hws hcw (fun a' U hW => word_at hW (Or.inl (by first | rfl | simp [Cond.onTables, Cond.keeps, Cond.steady])) hini)
  obtain ⟨hx, hb, hml, ho, -⟩ := S
  obtain ⟨-, ⟨cellB, hcB, hoB, hclB⟩, hPc⟩ := hp
  intro T hT X
  obtain ⟨v, vm₁, ⟨U', l2, c2, s2⟩, hW₁, X', ⟨g', mk, t, L, e1, e2, hq, h1, hL, h2, h3⟩, st⟩ := vx_callVW X hx (C := C) (hh := hh) (bytes := bytes) (maxL := maxL) (ret := ret) ho hl hin hse hcode hy hK (by rw [hT]; exact hcB) hoB hclB hg (hsize.trans hml.symm) (argsL := As) (rest := rest) (fun sig h => hn.trans (hlen sig h)) hstack hW (by rw [hb]; exact hdg)
    (fun vm₁ hW₁ => ⟨hf.1, hf.2, hPc (T.setVm vm₁) hT hW₁⟩)
  dsimp only [Pt.U, Pt.locs, Pt.cells, Pt.slots] at X' e1 e2 h1 h2 h3 st
  subst h1; subst h2; subst h3
  exact ⟨v, (T.setVm vm₁).calling g' mk (Value.ref b :: As).toArray, t, U', L, hT, X', hL, e1, e2, hq, st⟩
section
variable {y : MethodName} {bytes cc : ByteArray} {maxL nL mc ms n index : Nat} {ret : Option FieldType} {ws : List Cond} {rm : Room} {Pc : Array Value → State → Prop} {Qc : Array Value → State → Outcome → State → Prop} {XC : String → State → State → Prop} {free : Addr → Prop} {Ts : List Cond} {own C : String} {b : Addr} {As rest : List Value} {g : JFrame}
theorem vx_runVX {hh : List (Nat × Nat × Nat × Nat)} (S : CallFix p m c cc nL s args Ts own) (hM : vx_Met l y ws rm Pc Qc XC mc ms free) (cw : vx_CVW R s args own C index y bytes maxL ret hh ws rm mc ms n) (hp : PreV s H C b Pc As)
    (hg : g.method = m) (hn : As.length = n) (hsize : g.locals.size = nL) (hstack : g.stack = As.reverse ++ .ref b :: rest) (hW : 2 * g.monitorRoom + (rest.map fun v => v.category).sum ≤ 8) (hdg : decode cc g.pc = .ok (.invokevirtual index, 3)) (hf : cells + mc ≤ R.cells ∧ slots + ms ≤ R.slots) :
    vx_Run p l e R s m args below meth c H locs cells slots mc ms g rest (Qc (Value.ref b :: As).toArray) XC free := by
  obtain ⟨⟨hrc, hrs, hfr, hlo, hws, hcw⟩, hcode, hini, hy, hlen, hl, hin, hse⟩ := cw
  have hK : vx_Back l R p e below s args y 3 8 (PreOf R mc ms Pc) (PostOf Qc mc ms free) (vx_Post XC mc ms free) := vx_backW (hh := hh) (bytes := bytes) (maxL := maxL) (ret := ret) hM hp.1 hrc hrs hfr hlo hws hcw (fun a' U hW => word_at hW (Or.inl (by first | rfl | simp [Cond.onTables, Cond.keeps, Cond.steady])) hini)
  obtain ⟨hx, hb, hml, ho, -⟩ := S
  obtain ⟨-, ⟨cellB, hcB, hoB, hclB⟩, hPc⟩ := hp
  intro T hT X
  rcases vx_callVX X hx (C := C) (hh := hh) (bytes := bytes) (maxL := maxL) (ret := ret) ho hl hin hse hcode hy hK (by rw [hT]; exact hcB) hoB hclB hg (hsize.trans hml.symm) (argsL := As) (rest := rest) (fun sig h => hn.trans (hlen sig h)) hstack hW (by rw [hb]; exact hdg)
    (fun vm₁ hW₁ => ⟨hf.1, hf.2, hPc (T.setVm vm₁) hT hW₁⟩) with ⟨v, vm₁, ⟨U', l2, c2, s2⟩, hW₁, X', ⟨g', mk, t, L, e1, e2, hq, h1, hL, h2, h3⟩, st⟩ | ⟨q, vm₁, ⟨U', l2, c2, s2⟩, hW₁, X', ⟨g', mk, t, L, E, ce, e1, e2, hq, hce, hcv, hcl, h1, hL, h2, h3⟩, st⟩
  · dsimp only [Pt.U, Pt.locs, Pt.cells, Pt.slots] at X' e1 e2 h1 h2 h3 st
    subst h1; subst h2; subst h3
    exact Or.inl ⟨v, (T.setVm vm₁).calling g' mk (Value.ref b :: As).toArray, t, U', L, hT, X', hL, e1, e2, hq, st⟩
  · dsimp only [Pt.U, Pt.locs, Pt.cells, Pt.slots] at X' e1 e2 h1 h2 h3 st hcl
    subst h1; subst h2; subst h3
    exact Or.inr ⟨q, (T.setVm vm₁).calling g' mk (Value.ref b :: As).toArray, t, U', L, E, ce, hT, X', hL, e1, e2, hq, hce, hcv, vx_cls hW₁ hcl, st⟩
theorem vx_runSX {hh : List (Nat × Nat × Nat × Nat)} (S : CallFix p m c cc nL s args Ts own) (hM : vx_Met l y ws rm Pc Qc XC mc ms free) (cw : vx_CSW R s args own index y bytes maxL ret hh ws rm mc ms n) (hp : PreS s H Pc As)
    (hg : g.method = m) (hn : As.length = n) (hsize : g.locals.size = nL) (hstack : g.stack = As.reverse ++ rest) (hW : 2 * g.monitorRoom + (rest.map fun v => v.category).sum ≤ 8) (hdg : decode cc g.pc = .ok (.invokestatic index, 3)) (hf : cells + mc ≤ R.cells ∧ slots + ms ≤ R.slots) :
    vx_Run p l e R s m args below meth c H locs cells slots mc ms g rest (Qc As.toArray) XC free := by
  obtain ⟨⟨hrc, hrs, hfr, hlo, hws, hcw⟩, hcode, hini, hy, hlen, hl, hstt⟩ := cw
  have hK : vx_Back l R p e below s args y 3 8 (PreOf R mc ms Pc) (PostOf Qc mc ms free) (vx_Post XC mc ms free) := vx_backW (hh := hh) (bytes := bytes) (maxL := maxL) (ret := ret) hM hp.1 hrc hrs hfr hlo hws hcw (fun a' U hW => word_at hW (Or.inl (by first | rfl | simp [Cond.onTables, Cond.keeps, Cond.steady])) hini)
  obtain ⟨hx, hb, hml, ho, -⟩ := S
  intro T hT X
  rcases vx_callSX X hx (hh := hh) (bytes := bytes) (maxL := maxL) (ret := ret) ho hl hstt hini hcode hy hK hg (hsize.trans hml.symm) (argsL := As) (rest := rest) (fun sig h => hn.trans (hlen sig h)) hstack hW (by rw [hb]; exact hdg)
    (fun vm₁ hW₁ => ⟨hf.1, hf.2, hp.2 (T.setVm vm₁) hT hW₁⟩) with ⟨v, vm₁, ⟨U', l2, c2, s2⟩, hW₁, X', ⟨g', mk, t, L, e1, e2, hq, h1, hL, h2, h3⟩, st⟩ | ⟨q, vm₁, ⟨U', l2, c2, s2⟩, hW₁, X', ⟨g', mk, t, L, E, ce, e1, e2, hq, hce, hcv, hcl, h1, hL, h2, h3⟩, st⟩
  · dsimp only [Pt.U, Pt.locs, Pt.cells, Pt.slots] at X' e1 e2 h1 h2 h3 st
    subst h1; subst h2; subst h3
    exact Or.inl ⟨v, (T.setVm vm₁).calling g' mk As.toArray, t, U', L, hT, X', hL, e1, e2, hq, st⟩
  · dsimp only [Pt.U, Pt.locs, Pt.cells, Pt.slots] at X' e1 e2 h1 h2 h3 st hcl
    subst h1; subst h2; subst h3
    exact Or.inr ⟨q, (T.setVm vm₁).calling g' mk As.toArray, t, U', L, E, ce, hT, X', hL, e1, e2, hq, hce, hcv, vx_cls hW₁ hcl, st⟩
end
end VXH
theorem vx_ofWH {l : Launch} {y : MethodName} {ws ws' : List Cond} {rm : Room} {Pc : Array Value → State → Prop} {Qc : Array Value → State → Outcome → State → Prop} {XC : String → State → State → Prop} {mc ms : Nat} {free : Addr → Prop} {cc : ByteArray} {maxL : Nat} {ret : Option FieldType} {hh : List (Nat × Nat × Nat × Nat)}
    (hy : plainName y.cls = true) (hw : ws = Cond.codeWith y cc maxL ret hh :: ws')
    (body : ∀ p e s m args below meth c s₁, BodyLoose p l y (headSpec ws rm) cc maxL ret e s m args below meth c s₁ → c.maxLocals = maxL → Pc args s →
      W p l e (headSpec ws rm).room s m args below meth c s.heap [] 0 0 (vx_MQ below Qc XC args s mc ms free) (entryFrame m args maxL)) : vx_Met l y ws rm Pc Qc XC mc ms free := by
  refine MetFree.of_bodyS (code := cc) (maxLocals := maxL) (ret := ret) hy ?_ ?_
  · intro args s m h hn
    obtain ⟨m9, meth, c, hn9, h1, h2, h3, h4, -, h5, h6, -⟩ := Cond.codeWith_spec (atoms_spec (ws := ws) h _ (by rw [hw]; exact List.mem_cons_self))
    cases hn.symm.trans hn9
    exact ⟨meth, c, h1, h2, h3, h4, h5, h6⟩
  · intro p e s m args below meth c s₁ B hml hP _
    have hh0 : s₁.heap = s.heap := by rw [B.state]; rfl
    obtain ⟨t, a1, o, b1, b2, b3⟩ := body p e s m args below meth c s₁ B hml hP s₁ hh0 (Stand.of_body B)
    exact ⟨t, o, a1, b1, b2, b3⟩
/-! ===== END ===== -/
end
section
def rmT : Room := { frames := 6, cells := 1, slots := 6, locals := 100 }
def EN (A : Nat → Prop) (sa sb sc : Nat) (U : State) (H : Heap) : Prop :=
  vx_Zq Bundle.tN "UNASSIGNED_STACK" Bundle.steD A U H ∧ vx_Zq Bundle.tN "SUPPRESSED_SENTINEL" Bundle.listD A U H ∧
  vk_R RX0 45 "no such processor or address" sa U ∧ vk_R RX0 79 "no such processor or block" sb U ∧ vk_R RX0 87 "the cache does not hold the block" sc U ∧
  va_Nw (.castable "java/lang/IllegalArgumentException" "java/lang/IllegalArgumentException") U ∧ va_Nw (.castable "java/lang/IllegalStateException" "java/lang/IllegalStateException") U ∧ va_Nw (.declares (⟨"java/lang/RuntimeException", "<init>", "(Ljava/lang/String;)V"⟩ : MethodName)) U ∧ va_Nw (.declares (⟨"java/lang/Exception", "<init>", "(Ljava/lang/String;)V"⟩ : MethodName)) U ∧ va_Nw (.declares (⟨"java/lang/Throwable", "<init>", "(Ljava/lang/String;)V"⟩ : MethodName)) U
theorem EN.warm {A : Nat → Prop} {sa sb sc : Nat} {s U : State} {H : Heap} (hW : s.WarmedH U.vm) (h : EN A sa sb sc s H) : EN A sa sb sc U H := by
  obtain ⟨h1, h2, h3, h4, h5, h6, h7, h8, h9, h10⟩ := h
  exact ⟨h1.moved hW.alike, h2.moved hW.alike, h3.warm hW, h4.warm hW, h5.warm hW, h6.warmC hW, h7.warmC hW, h8.warmD hW, h9.warmD hW, h10.warmD hW⟩
theorem EN.same {A : Nat → Prop} {sa sb sc : Nat} {s U : State} {H : Heap} (hv : s.vm = U.vm) (h : EN A sa sb sc s H) : EN A sa sb sc U H := by
  obtain ⟨h1, h2, h3, h4, h5, h6, h7, h8, h9, h10⟩ := h
  have ha : s.vm.Alike U.vm := by rw [hv]; exact Vm.Alike.refl U.vm
  exact ⟨h1.moved ha, h2.moved ha, h3.same hv.symm, h4.same hv.symm, h5.same hv.symm, h6.same rfl hv, h7.same rfl hv, h8.same rfl hv, h9.same rfl hv, h10.same rfl hv⟩
theorem EN.kept {A : Nat → Prop} {sa sb sc : Nat} {s : State} {H H1 : Heap} (h : EN A sa sb sc s H) (hq : ∀ a : Nat, a < H.size → ¬ A a → H1[a]? = H[a]?) : EN A sa sb sc s H1 := by
  obtain ⟨h1, h2, h3⟩ := h
  exact ⟨h1.kept hq, h2.kept hq, h3⟩
theorem EN.narrow {A B : Nat → Prop} {sa sb sc : Nat} {s : State} {H : Heap} (h : EN A sa sb sc s H) (hAB : ∀ q, B q → A q) : EN B sa sb sc s H := by
  obtain ⟨h1, h2, h3⟩ := h
  exact ⟨h1.narrow hAB, h2.narrow hAB, h3⟩
theorem atI_in : ∀ w ∈ (vx_atS RX0 47 "java/lang/IllegalArgumentException" ["java/lang/RuntimeException", "java/lang/Exception"]).filter goodWord, w ∈ GT := by decide +kernel
theorem atI_ot : ∀ w ∈ Cond.classLink RX0 43 "java/lang/IllegalArgumentException" :: Cond.initialized "java/lang/IllegalArgumentException" :: vx_atS RX0 47 "java/lang/IllegalArgumentException" ["java/lang/RuntimeException", "java/lang/Exception"], vx_ot w = true := by decide +kernel
theorem atI_bad : ∀ w ∈ (vx_atS RX0 47 "java/lang/IllegalArgumentException" ["java/lang/RuntimeException", "java/lang/Exception"]).filter (fun w => !goodWord w), w ∈ [Cond.castable "java/lang/IllegalArgumentException" "java/lang/IllegalArgumentException", .declares (⟨"java/lang/RuntimeException", "<init>", "(Ljava/lang/String;)V"⟩ : MethodName), .declares (⟨"java/lang/Exception", "<init>", "(Ljava/lang/String;)V"⟩ : MethodName), .declares (⟨"java/lang/Throwable", "<init>", "(Ljava/lang/String;)V"⟩ : MethodName)] := by decide +kernel
theorem atS_in : ∀ w ∈ (vx_atS RX0 89 "java/lang/IllegalStateException" ["java/lang/RuntimeException", "java/lang/Exception"]).filter goodWord, w ∈ GT := by decide +kernel
theorem atS_ot : ∀ w ∈ Cond.classLink RX0 85 "java/lang/IllegalStateException" :: Cond.initialized "java/lang/IllegalStateException" :: vx_atS RX0 89 "java/lang/IllegalStateException" ["java/lang/RuntimeException", "java/lang/Exception"], vx_ot w = true := by decide +kernel
theorem atS_bad : ∀ w ∈ (vx_atS RX0 89 "java/lang/IllegalStateException" ["java/lang/RuntimeException", "java/lang/Exception"]).filter (fun w => !goodWord w), w ∈ [Cond.castable "java/lang/IllegalStateException" "java/lang/IllegalStateException", .declares (⟨"java/lang/RuntimeException", "<init>", "(Ljava/lang/String;)V"⟩ : MethodName), .declares (⟨"java/lang/Exception", "<init>", "(Ljava/lang/String;)V"⟩ : MethodName), .declares (⟨"java/lang/Throwable", "<init>", "(Ljava/lang/String;)V"⟩ : MethodName)] := by decide +kernel
def xXC (D : va_G) (o : Nat → Nat) (cA : ClassId) (sz : Nat) (S : SX) (E0 : String) : String → State → State → Prop := vx_X (fun (_ : Unit) => True) (fun E _ t => E = E0 ∧ xPost D o cA sz S t) (xA o sz)
def xQF (o : Nat → Nat) (sz : Nat) : Array Value → State → Outcome → State → Prop := va_Qi (fun (_ : Int32) (_ : Unit) => False) (fun _ _ => True) (xA o sz)
def xT (l : Launch) (D : va_G) (o : Nat → Nat) (cA : ClassId) (sa sb sc : Nat) (y : MethodName) (code : ByteArray) (maxL : Nat) (ret : Option FieldType) (As : List Value) (S : SX) (E0 : String) : Prop :=
  ∀ sz : Nat, vx_Met l y (.code y code maxL ret :: GT) rmT (va_Pc As (fun U => xPre D o cA sz S U ∧ EN (xA o sz) sa sb sc U U.heap)) (xQF o sz) (xXC D o cA sz S E0) 1 6 (xA o sz)
section Thr
variable {p : Program} {l : Launch} {e : Env} {R : Room} {s : State} {m : MethodId} {args : Array Value} {below : List Frame} {meth : Method} {c : Code} {H : Heap} {locs : List Loc} {cells slots : Nat} {Q : State → Prop}
variable {cc : ByteArray} {pc : Nat} {ls : Array Slot} {rest : List Value} {D : va_G} {A : Nat → Prop} {H0 : Heap} {o : Nat → Nat} {cA : ClassId} {S : SX}
variable {sa sb sc : Nat}
theorem x_metT {y : MethodName} {code : ByteArray} {maxL sz : Nat} {ret : Option FieldType} {As : List Value} {Qc : Array Value → State → Outcome → State → Prop} {XC : String → State → State → Prop} (hy : plainName y.cls = true) (ho : y.cls = RX0) (hlen : (lg_sl As).length ≤ maxL)
    (body : ∀ (p : Program) (e : Env) (s : State) (m : MethodId) (below : List Frame) (meth : Method) (c : Code) (ls : Array Slot), s.heap.size = sz → p.tables.exec = Jvm.exec → c.code = code → c.maxLocals = maxL → meth.locks = false → s.vm.findClass RX0 = some m.cls → (∀ w ∈ GT, w.before As.toArray s = true) → lv_has ls maxL (lv_args 0 As) → xW D o cA (xA o s.heap.size) s s.heap S s.heap [] → EN (xA o s.heap.size) sa sb sc s s.heap → (∀ x ∈ c.exceptionTable.toList, False) →
      W p l e rmT s m As.toArray below meth c s.heap [] 0 0 (vx_MQ below Qc XC As.toArray s 1 6 (xA o sz)) (F0 m 0 ls [])) : vx_Met l y (.code y code maxL ret :: GT) rmT (va_Pc As (fun U => xPre D o cA sz S U ∧ EN (xA o sz) sa sb sc U U.heap)) Qc XC 1 6 (xA o sz) := by
  refine vx_ofW (cc := code) (maxL := maxL) (ret := ret) hy rfl ?_
  intro p e s m args below meth c s₁ B hml hex hv
  obtain ⟨rfl, ⟨hsz, hP, hK, hD0⟩, hE⟩ := hv
  subst hsz
  have hts0 := atoms_spec (ws := Cond.code y code maxL ret :: GT) B.pre
  have hown : s.vm.findClass y.cls = some m.cls := findClass_of_methodNamed B.named
  rw [ho] at hown
  rw [lg_entry_eq]
  exact body p e s m below meth c _ rfl B.exec B.bytes hml B.notSynchronized hown (fun w h => hts0 w (List.mem_cons_of_mem _ h)) (lv_entry As hlen) ⟨hP, ⟨hD0.1, fun k q hk => Or.inl ⟨k, xw_at hk⟩⟩, va_S.rf, hK, fun q h => Or.inr h⟩ hE hex
theorem x_thrI {is sx : Nat} {text : String} {Qc : Array Value → State → Outcome → State → Prop} (hx : p.tables.exec = Jvm.exec) (hb : c.code = cc) (hl9 : l.stackTraces = false) (hts : ∀ w ∈ GT, w.before args s = true) (hown : s.vm.findClass RX0 = some m.cls) (hw : xW D o cA (xA o s.heap.size) s s.heap S H locs) (hE : EN (xA o s.heap.size) sa sb sc s s.heap) (hex : ∀ x ∈ c.exceptionTable.toList, False) (hlocks : meth.locks = false) (hsize : ls.size = c.maxLocals) (hstr : vk_R RX0 is text sx s)
    (d0 : decode cc pc = .ok (.new 43, 3)) (d3 : decode cc (pc + 3) = .ok (.dup, 1)) (d4 : decode cc (pc + 4) = .ok (.ldc is, 2)) (d6 : decode cc (pc + 6) = .ok (.invokespecial 47, 3)) (d9 : decode cc (pc + 9) = .ok (.athrow, 1)) :
    W p l e rmT s m args below meth c H locs 0 0 (vx_MQ below Qc (xXC D o cA s.heap.size S "java/lang/IllegalArgumentException") args s 1 6 (xA o s.heap.size)) (F0 m pc ls []) := by
  obtain ⟨hP, hD, hS, hK, hA⟩ := id hw
  refine vx_throwS (A := xA o s.heap.size) (rest := []) (names := ["java/lang/RuntimeException", "java/lang/Exception"]) hx hb hl9 hown (by decide +kernel) (by decide +kernel) (hts (.classLink RX0 43 "java/lang/IllegalArgumentException") gw_118) (hts (.initialized "java/lang/IllegalArgumentException") gw_7) hstr
    (vx_hat (L := vx_atS RX0 47 "java/lang/IllegalArgumentException" ["java/lang/RuntimeException", "java/lang/Exception"]) (B := [Cond.castable "java/lang/IllegalArgumentException" "java/lang/IllegalArgumentException", .declares (⟨"java/lang/RuntimeException", "<init>", "(Ljava/lang/String;)V"⟩ : MethodName), .declares (⟨"java/lang/Exception", "<init>", "(Ljava/lang/String;)V"⟩ : MethodName), .declares (⟨"java/lang/Throwable", "<init>", "(Ljava/lang/String;)V"⟩ : MethodName)]) (fun w hw => hts w (atI_in w hw)) atI_bad (vx_c (va_Nw.use rfl hE.2.2.2.2.2.1) (vx_c (va_Nw.use rfl hE.2.2.2.2.2.2.2.1) (vx_c (va_Nw.use rfl hE.2.2.2.2.2.2.2.2.1) (vx_c (va_Nw.use rfl hE.2.2.2.2.2.2.2.2.2) vx_n)))))
    atI_ot hE.1 hE.2.1 hS hsize d0 d3 d4 d6 d9 (fun x h => (hex x h).elim) (by decide) (Nat.le_of_ble_eq_true rfl) (by decide) (by decide) hlocks (fun t ha hz hk => ?_) hS.2.2 (by decide) (by decide)
  refine ⟨(), trivial, ⟨rfl, hP.kept (fun k q hq => hk q.1 (hP k q hq).lt), va_K.moved ha hK, hD⟩, Nat.le_trans hS.1 hz, fun q h1 h2 => ?_⟩
  rw [hk q (Nat.lt_of_lt_of_le h1 hS.1)]
  exact hS.2.1 q h1 h2
theorem x_thrS {is sx : Nat} {text : String} {Qc : Array Value → State → Outcome → State → Prop} (hx : p.tables.exec = Jvm.exec) (hb : c.code = cc) (hl9 : l.stackTraces = false) (hts : ∀ w ∈ GT, w.before args s = true) (hown : s.vm.findClass RX0 = some m.cls) (hw : xW D o cA (xA o s.heap.size) s s.heap S H locs) (hE : EN (xA o s.heap.size) sa sb sc s s.heap) (hex : ∀ x ∈ c.exceptionTable.toList, False) (hlocks : meth.locks = false) (hsize : ls.size = c.maxLocals) (hstr : vk_R RX0 is text sx s)
    (d0 : decode cc pc = .ok (.new 85, 3)) (d3 : decode cc (pc + 3) = .ok (.dup, 1)) (d4 : decode cc (pc + 4) = .ok (.ldc is, 2)) (d6 : decode cc (pc + 6) = .ok (.invokespecial 89, 3)) (d9 : decode cc (pc + 9) = .ok (.athrow, 1)) :
    W p l e rmT s m args below meth c H locs 0 0 (vx_MQ below Qc (xXC D o cA s.heap.size S "java/lang/IllegalStateException") args s 1 6 (xA o s.heap.size)) (F0 m pc ls []) := by
  obtain ⟨hP, hD, hS, hK, hA⟩ := id hw
  refine vx_throwS (A := xA o s.heap.size) (rest := []) (names := ["java/lang/RuntimeException", "java/lang/Exception"]) hx hb hl9 hown (by decide +kernel) (by decide +kernel) (hts (.classLink RX0 85 "java/lang/IllegalStateException") gw_170) (hts (.initialized "java/lang/IllegalStateException") gw_9) hstr
    (vx_hat (L := vx_atS RX0 89 "java/lang/IllegalStateException" ["java/lang/RuntimeException", "java/lang/Exception"]) (B := [Cond.castable "java/lang/IllegalStateException" "java/lang/IllegalStateException", .declares (⟨"java/lang/RuntimeException", "<init>", "(Ljava/lang/String;)V"⟩ : MethodName), .declares (⟨"java/lang/Exception", "<init>", "(Ljava/lang/String;)V"⟩ : MethodName), .declares (⟨"java/lang/Throwable", "<init>", "(Ljava/lang/String;)V"⟩ : MethodName)]) (fun w hw => hts w (atS_in w hw)) atS_bad (vx_c (va_Nw.use rfl hE.2.2.2.2.2.2.1) (vx_c (va_Nw.use rfl hE.2.2.2.2.2.2.2.1) (vx_c (va_Nw.use rfl hE.2.2.2.2.2.2.2.2.1) (vx_c (va_Nw.use rfl hE.2.2.2.2.2.2.2.2.2) vx_n)))))
    atS_ot hE.1 hE.2.1 hS hsize d0 d3 d4 d6 d9 (fun x h => (hex x h).elim) (by decide) (Nat.le_of_ble_eq_true rfl) (by decide) (by decide) hlocks (fun t ha hz hk => ?_) hS.2.2 (by decide) (by decide)
  refine ⟨(), trivial, ⟨rfl, hP.kept (fun k q hq => hk q.1 (hP k q hq).lt), va_K.moved ha hK, hD⟩, Nat.le_trans hS.1 hz, fun q h1 h2 => ?_⟩
  rw [hk q (Nat.lt_of_lt_of_le h1 hS.1)]
  exact hS.2.1 q h1 h2
end Thr
set_option maxRecDepth 100000 in
set_option maxHeartbeats 4000000 in
theorem cx_read_bad (l : Launch) (hl9 : l.stackTraces = false) (D : va_G) (o : Nat → Nat) (cA : ClassId) (sa sb sc : Nat) (S : SX) (x y : Int32) (hbad : (inR x 4 && inR y 32) = false) : xT l D o cA sa sb sc yX0_read cX0_read 3 (some .int) [.ref (o 0), .int x, .int y] S "java/lang/IllegalArgumentException" := by
  intro sz
  refine x_metT (by decide) rfl (Nat.le_of_ble_eq_true rfl) ?_
  intro P0 e s m below meth c ls hsz hx hb hml hlocks hown hts hl hw hE hex
  subst hsz
  have hl : lv_has ls 3 [(0, .ref (o 0)), (1, .int x), (2, .int y)] := hl
  refine lv_iload_n hx hb dX0_read_0 rfl (lv_at hl 1 rfl) ?_
  refine x_cs (rest := []) ⟨hx, hb, hml, hown, hts⟩ (cx_isProcessor l x) (cwx_isProcessor hts ⟨by decide, by decide⟩) hw rfl hl.1 rfl (Nat.le_of_ble_eq_true rfl) dX0_read_1 ⟨Nat.zero_le _, Nat.zero_le _⟩ (fun H locs hw => ?_)
  refine lv_if_eq (tgt := 14) hx hb dX0_read_4 (by decide) (fun g1 => ?_) (fun g1 => ?_)
  · have g1 := bI_z.mp g1
    exact x_thrI hx hb hl9 hts hown hw hE hex hlocks (hl.1.trans hml.symm) hE.2.2.1 dX0_read_14 dX0_read_17 dX0_read_18 dX0_read_20 dX0_read_23
  · have g1 := bI_n.mp g1
    refine lv_iload_n hx hb dX0_read_7 rfl (lv_at hl 2 rfl) ?_
    refine x_cs (rest := []) ⟨hx, hb, hml, hown, hts⟩ (cx_isAddress l y) (cwx_isAddress hts ⟨by decide, by decide⟩) hw rfl hl.1 rfl (Nat.le_of_ble_eq_true rfl) dX0_read_8 ⟨Nat.zero_le _, Nat.zero_le _⟩ (fun H locs hw => ?_)
    refine lv_if_ne (tgt := 24) hx hb dX0_read_11 (by decide) (fun h9 => absurd h9 (fun h8 => h8 (bI_z.mpr (by rw [g1, Bool.true_and] at hbad; exact hbad)))) (fun _ => ?_)
    exact x_thrI hx hb hl9 hts hown hw hE hex hlocks (hl.1.trans hml.symm) hE.2.2.1 dX0_read_14 dX0_read_17 dX0_read_18 dX0_read_20 dX0_read_23
set_option maxRecDepth 100000 in
set_option maxHeartbeats 4000000 in
theorem cx_write_bad (l : Launch) (hl9 : l.stackTraces = false) (D : va_G) (o : Nat → Nat) (cA : ClassId) (sa sb sc : Nat) (S : SX) (x y w : Int32) (hbad : (inR x 4 && inR y 32) = false) : xT l D o cA sa sb sc yX0_write cX0_write 5 (some .int) [.ref (o 0), .int x, .int y, .int w] S "java/lang/IllegalArgumentException" := by
  intro sz
  refine x_metT (by decide) rfl (Nat.le_of_ble_eq_true rfl) ?_
  intro P0 e s m below meth c ls hsz hx hb hml hlocks hown hts hl hw hE hex
  subst hsz
  have hl : lv_has ls 5 [(0, .ref (o 0)), (1, .int x), (2, .int y), (3, .int w)] := hl
  refine lv_iload_n hx hb dX0_write_0 rfl (lv_at hl 1 rfl) ?_
  refine x_cs (rest := []) ⟨hx, hb, hml, hown, hts⟩ (cx_isProcessor l x) (cwx_isProcessor hts ⟨by decide, by decide⟩) hw rfl hl.1 rfl (Nat.le_of_ble_eq_true rfl) dX0_write_1 ⟨Nat.zero_le _, Nat.zero_le _⟩ (fun H locs hw => ?_)
  refine lv_if_eq (tgt := 14) hx hb dX0_write_4 (by decide) (fun g1 => ?_) (fun g1 => ?_)
  · have g1 := bI_z.mp g1
    exact x_thrI hx hb hl9 hts hown hw hE hex hlocks (hl.1.trans hml.symm) hE.2.2.1 dX0_write_14 dX0_write_17 dX0_write_18 dX0_write_20 dX0_write_23
  · have g1 := bI_n.mp g1
    refine lv_iload_n hx hb dX0_write_7 rfl (lv_at hl 2 rfl) ?_
    refine x_cs (rest := []) ⟨hx, hb, hml, hown, hts⟩ (cx_isAddress l y) (cwx_isAddress hts ⟨by decide, by decide⟩) hw rfl hl.1 rfl (Nat.le_of_ble_eq_true rfl) dX0_write_8 ⟨Nat.zero_le _, Nat.zero_le _⟩ (fun H locs hw => ?_)
    refine lv_if_ne (tgt := 24) hx hb dX0_write_11 (by decide) (fun h9 => absurd h9 (fun h8 => h8 (bI_z.mpr (by rw [g1, Bool.true_and] at hbad; exact hbad)))) (fun _ => ?_)
    exact x_thrI hx hb hl9 hts hown hw hE hex hlocks (hl.1.trans hml.symm) hE.2.2.1 dX0_write_14 dX0_write_17 dX0_write_18 dX0_write_20 dX0_write_23
set_option maxRecDepth 100000 in
set_option maxHeartbeats 4000000 in
theorem cx_evict_bad (l : Launch) (hl9 : l.stackTraces = false) (D : va_G) (o : Nat → Nat) (cA : ClassId) (sa sb sc : Nat) (S : SX) (x y : Int32) (hbad : (inR x 4 && inR y 16) = false) : xT l D o cA sa sb sc yX0_evict cX0_evict 3 (some .boolean) [.ref (o 0), .int x, .int y] S "java/lang/IllegalArgumentException" := by
  intro sz
  refine x_metT (by decide) rfl (Nat.le_of_ble_eq_true rfl) ?_
  intro P0 e s m below meth c ls hsz hx hb hml hlocks hown hts hl hw hE hex
  subst hsz
  have hl : lv_has ls 3 [(0, .ref (o 0)), (1, .int x), (2, .int y)] := hl
  refine lv_iload_n hx hb dX0_evict_0 rfl (lv_at hl 1 rfl) ?_
  refine x_cs (rest := []) ⟨hx, hb, hml, hown, hts⟩ (cx_isProcessor l x) (cwx_isProcessor hts ⟨by decide, by decide⟩) hw rfl hl.1 rfl (Nat.le_of_ble_eq_true rfl) dX0_evict_1 ⟨Nat.zero_le _, Nat.zero_le _⟩ (fun H locs hw => ?_)
  refine lv_if_eq (tgt := 14) hx hb dX0_evict_4 (by decide) (fun g1 => ?_) (fun g1 => ?_)
  · have g1 := bI_z.mp g1
    exact x_thrI hx hb hl9 hts hown hw hE hex hlocks (hl.1.trans hml.symm) hE.2.2.2.1 dX0_evict_14 dX0_evict_17 dX0_evict_18 dX0_evict_20 dX0_evict_23
  · have g1 := bI_n.mp g1
    refine lv_iload_n hx hb dX0_evict_7 rfl (lv_at hl 2 rfl) ?_
    refine x_cs (rest := []) ⟨hx, hb, hml, hown, hts⟩ (cx_isBlock l y) (cwx_isBlock hts ⟨by decide, by decide⟩) hw rfl hl.1 rfl (Nat.le_of_ble_eq_true rfl) dX0_evict_8 ⟨Nat.zero_le _, Nat.zero_le _⟩ (fun H locs hw => ?_)
    refine lv_if_ne (tgt := 24) hx hb dX0_evict_11 (by decide) (fun h9 => absurd h9 (fun h8 => h8 (bI_z.mpr (by rw [g1, Bool.true_and] at hbad; exact hbad)))) (fun _ => ?_)
    exact x_thrI hx hb hl9 hts hown hw hE hex hlocks (hl.1.trans hml.symm) hE.2.2.2.1 dX0_evict_14 dX0_evict_17 dX0_evict_18 dX0_evict_20 dX0_evict_23
set_option maxRecDepth 100000 in
set_option maxHeartbeats 4000000 in
theorem cx_evict_no (l : Launch) (hl9 : l.stackTraces = false) (D : va_G) (o : Nat → Nat) (cA : ClassId) (sa sb sc : Nat) (S : SX) (u b : Nat) (hu : u < 4) (hbb : b < 16) (hh : xHo S u b = false) : xT l D o cA sa sb sc yX0_evict cX0_evict 3 (some .boolean) [.ref (o 0), .int (nI u), .int (nI b)] S "java/lang/IllegalStateException" := by
  intro sz
  refine x_metT (by decide) rfl (Nat.le_of_ble_eq_true rfl) ?_
  intro P0 e s m below meth c ls hsz hx hb hml hlocks hown hts hl hw hE hex
  subst hsz
  have hl : lv_has ls 3 [(0, .ref (o 0)), (1, .int (nI u)), (2, .int (nI b))] := hl
  refine lv_iload_n hx hb dX0_evict_0 rfl (lv_at hl 1 rfl) ?_
  refine x_cs (rest := []) ⟨hx, hb, hml, hown, hts⟩ (cx_isProcessor l (nI u)) (cwx_isProcessor hts ⟨by decide, by decide⟩) hw rfl hl.1 rfl (Nat.le_of_ble_eq_true rfl) dX0_evict_1 ⟨Nat.zero_le _, Nat.zero_le _⟩ (fun H locs hw => ?_)
  refine lv_if_eq (tgt := 14) hx hb dX0_evict_4 (by decide) (fun h9 => absurd h9 (bI_n.mpr (inR_t (n := 4) hu (by decide)))) (fun _ => ?_)
  refine lv_iload_n hx hb dX0_evict_7 rfl (lv_at hl 2 rfl) ?_
  refine x_cs (rest := []) ⟨hx, hb, hml, hown, hts⟩ (cx_isBlock l (nI b)) (cwx_isBlock hts ⟨by decide, by decide⟩) hw rfl hl.1 rfl (Nat.le_of_ble_eq_true rfl) dX0_evict_8 ⟨Nat.zero_le _, Nat.zero_le _⟩ (fun H locs hw => ?_)
  refine lv_if_ne (tgt := 24) hx hb dX0_evict_11 (by decide) (fun _ => ?_) (fun h9 => absurd h9 (bI_n.mpr (inR_t (n := 16) hbb (by decide))))
  refine lv_aload_n hx hb dX0_evict_24 rfl (lv_at hl 0 rfl) ?_
  refine lv_iload_n hx hb dX0_evict_25 rfl (lv_at hl 1 rfl) ?_
  refine lv_iload_n hx hb dX0_evict_26 rfl (lv_at hl 2 rfl) ?_
  refine x_ci (rest := []) ⟨hx, hb, hml, hown, hts⟩ (cx_holds l D o cA S u b (by omega) (by omega)) (cwx_holds hts ⟨by decide, by decide⟩) hw rfl hl.1 rfl (Nat.le_of_ble_eq_true rfl) dX0_evict_27 ⟨Nat.zero_le _, Nat.zero_le _⟩ (fun H locs hw => ?_)
  refine lv_if_ne (tgt := 43) hx hb dX0_evict_30 (by decide) (fun h9 => absurd h9 (fun h8 => h8 (bI_z.mpr hh))) (fun _ => ?_)
  exact x_thrS hx hb hl9 hts hown hw hE hex hlocks (hl.1.trans hml.symm) hE.2.2.2.2.1 dX0_evict_33 dX0_evict_36 dX0_evict_37 dX0_evict_39 dX0_evict_42
end
section
def rmH : Room := { frames := 7, cells := 1, slots := 6, locals := 320 }
def hw1 (q : Nat) (cL : ClassId) (z : Nat → Int64) : va_W := [(q, .inl (cL, 1, .inr (.inl z)))]
def hA (o : Nat → Nat) (q sz : Nat) : Nat → Prop := fun a => xA o sz a ∨ a = q
def hPre (D : va_G) (o : Nat → Nat) (cA : ClassId) (q : Nat) (cL : ClassId) (sa sb sc sz : Nat) (S : SX) (z : Nat → Int64) (U : State) : Prop := xPre D o cA sz S U ∧ va_P D vwCl (hw1 q cL z) U.heap ∧ va_K D vwCl [(cL, .long)] U ∧ (∀ i, i < 7 → q ≠ o i) ∧ EN (hA o q sz) sa sb sc U U.heap ∧ va_Nc "java/lang/IllegalStateException" "java/lang/IllegalArgumentException" U
def hQ (D : va_G) (o : Nat → Nat) (cA : ClassId) (q : Nat) (cL : ClassId) (sz : Nat) (S1 : SX) (z1 : Nat → Int64) (r1 : Int32) : Array Value → State → Outcome → State → Prop := va_Qi (fun (r : Int32) (_ : Unit) => r = r1) (fun _ t => va_P D vwCl (xw o cA S1) t.heap ∧ va_P D vwCl (hw1 q cL z1) t.heap) (hA o q sz)
def hM (l : Launch) (D : va_G) (o : Nat → Nat) (cA : ClassId) (q : Nat) (cL : ClassId) (sa sb sc : Nat) (y : MethodName) (code : ByteArray) (maxL : Nat) (hh : List (Nat × Nat × Nat × Nat)) (As : List Value) (S : SX) (z : Nat → Int64) (S1 : SX) (z1 : Nat → Int64) (r1 : Int32) : Prop :=
  ∀ sz : Nat, Met l y (.codeWith y code maxL (some .int) hh :: GT) rmH (va_Pc As (hPre D o cA q cL sa sb sc sz S z)) (hQ D o cA q cL sz S1 z1 r1) 1 6 (hA o q sz)
def hW (D : va_G) (o : Nat → Nat) (cA : ClassId) (q : Nat) (cL : ClassId) (z : Nat → Int64) (A : Nat → Prop) (s : State) (H0 : Heap) (S : SX) (H : Heap) (locs : List Loc) : Prop :=
  xW D o cA A s H0 S H locs ∧ va_P D vwCl (hw1 q cL z) H ∧ A q ∧ (∀ i, i < 7 → q ≠ o i) ∧ va_K D vwCl [(cL, .long)] s
section Helpers
variable {p : Program} {l : Launch} {e : Env} {R : Room} {s : State} {m : MethodId} {args : Array Value} {below : List Frame} {meth : Method} {c : Code} {H : Heap} {locs : List Loc} {cells slots : Nat} {Q : State → Prop}
variable {cc : ByteArray} {pc : Nat} {ls : Array Slot} {rest : List Value} {D : va_G} {A : Nat → Prop} {H0 : Heap} {o : Nat → Nat} {cA : ClassId} {S : SX}
variable {sa sb sc q : Nat} {cL : ClassId} {z : Nat → Int64}
theorem h_met {y : MethodName} {code : ByteArray} {maxL sz : Nat} {hh : List (Nat × Nat × Nat × Nat)} {As : List Value} {Qc : Array Value → State → Outcome → State → Prop} (hy : plainName y.cls = true) (ho : y.cls = RL) (hlen : (lg_sl As).length ≤ maxL)
    (body : ∀ (p : Program) (e : Env) (s : State) (m : MethodId) (below : List Frame) (meth : Method) (c : Code) (ls : Array Slot), s.heap.size = sz → p.tables.exec = Jvm.exec → c.code = code → c.maxLocals = maxL → meth.sig.returnType = some .int → meth.locks = false → s.vm.findClass RL = some m.cls → (∀ w ∈ GT, w.before As.toArray s = true) → c.exceptionTable.toList = tableOf hh → lv_has ls maxL (lv_args 0 As) → hW D o cA q cL z (hA o q s.heap.size) s s.heap S s.heap [] → EN (hA o q s.heap.size) sa sb sc s s.heap → va_Nc "java/lang/IllegalStateException" "java/lang/IllegalArgumentException" s →
      W p l e rmH s m As.toArray below meth c s.heap [] 0 0 (MQ below Qc As.toArray s 1 6 (hA o q sz)) (F0 m 0 ls [])) : Met l y (.codeWith y code maxL (some .int) hh :: GT) rmH (va_Pc As (hPre D o cA q cL sa sb sc sz S z)) Qc 1 6 (hA o q sz) := by
  refine va_MetW (cc := code) (maxL := maxL) (ret := some .int) (hh := hh) hy rfl ?_
  intro p e s m args below meth c s₁ B hml hv
  obtain ⟨rfl, ⟨hsz, hP, hK, hD0⟩, hP2, hK2, hne, hE, hN⟩ := hv
  subst hsz
  have hts0 := atoms_spec (ws := Cond.codeWith y code maxL (some .int) hh :: GT) B.pre
  have htab := vx_table (x := y) B (hts0 _ List.mem_cons_self)
  have hown : s.vm.findClass y.cls = some m.cls := findClass_of_methodNamed B.named
  rw [ho] at hown
  rw [lg_entry_eq]
  exact body p e s m below meth c _ rfl B.exec B.bytes hml B.returns B.notSynchronized hown (fun w h => hts0 w (List.mem_cons_of_mem _ h)) htab (lv_entry As hlen) ⟨⟨hP, ⟨hD0.1, fun k q hk => Or.inl (Or.inl ⟨k, xw_at hk⟩)⟩, va_S.rf, hK, fun q h => Or.inl (Or.inr h)⟩, hP2, Or.inr rfl, hne, hK2⟩ hE hN
theorem h_ret {r r1 : Int32} {S1 : SX} {z1 : Nat → Int64} (hx : p.tables.exec = Jvm.exec) (hb : c.code = cc) (hr : meth.sig.returnType = some .int) (hlocks : meth.locks = false) (hw : hW D o cA q cL z (hA o q s.heap.size) s s.heap S H locs) (h : r = r1 ∧ S = S1 ∧ z = z1) (hdg : decode cc pc = .ok (.ireturn, 1)) :
    W p l e R s m args below meth c H locs cells slots (MQ below (hQ D o cA q cL s.heap.size S1 z1 r1) args s cells slots (hA o q s.heap.size)) (F0 m pc ls [.int r]) := by
  obtain ⟨⟨hP, hD, hS, hK, -⟩, hP2, -⟩ := hw
  obtain ⟨h, rfl, rfl⟩ := h
  exact W.iret (v := r) hx hb hr (fun t ht hW => ⟨⟨r, (), rfl, h, by rw [ht]; exact hP, by rw [ht]; exact hP2⟩, hS.F ht⟩) hS.2.2 hdg hlocks
theorem h_keep {H1 : Heap} (hw : hW D o cA q cL z A s H0 S H locs) (hk : ∀ a : Nat, a < H.size → ¬ xA o H.size a → H1[a]? = H[a]?) : va_P D vwCl (hw1 q cL z) H1 := by
  refine hw.2.1.kept (fun k x hx => ?_)
  have hlt := (hw.2.1 k x hx).lt
  have hk0 : k < 1 := (List.getElem?_eq_some_iff.mp hx).1
  obtain rfl : k = 0 := by omega
  have h2 := Option.some.inj hx
  refine hk x.1 hlt (fun h => ?_)
  rw [← h2] at h hlt
  rcases h with ⟨i, hi, e⟩ | h
  · exact hw.2.2.2.1 i hi e
  · exact absurd hlt (Nat.not_lt.mpr h)
theorem h_last {x : Int64} (hx : p.tables.exec = Jvm.exec) (hb : c.code = cc) (hw : hW D o cA q cL z A s H0 S H locs) (hdg : decode cc pc = .ok (.lastore, 1))
    (kk : ∀ (H1 : Heap) (locs1 : List Loc), hW D o cA q cL (vp_updL z 0 x) A s H0 S H1 locs1 → W p l e R s m args below meth c H1 locs1 cells slots Q (F0 m (pc + 1) ls rest)) : W p l e R s m args below meth c H locs cells slots Q (F0 m pc ls (.long x :: .int 0 :: .ref q :: rest)) := by
  obtain ⟨⟨hP, hD, hS, hK, hA9⟩, hP2, hAq, hne, hK2⟩ := hw
  have hD2 : va_D A (hw1 q cL z) := ⟨fun i j p9 q9 hp hq _ => by
    have h1 : i < 1 := (List.getElem?_eq_some_iff.mp hp).1
    have h2 : j < 1 := (List.getElem?_eq_some_iff.mp hq).1
    omega, fun k p9 hk => by
    have h1 : k < 1 := (List.getElem?_eq_some_iff.mp hk).1
    obtain rfl : k = 0 := by omega
    have h2 := Option.some.inj hk
    rw [← h2]
    exact hAq⟩
  have hDD : va_D A (xw o cA S ++ hw1 q cL z) := hD.app hD2 (fun i j p9 q9 hp hq e => by
    have h1 : j < 1 := (List.getElem?_eq_some_iff.mp hq).1
    obtain rfl : j = 0 := by omega
    have h2 := Option.some.inj hq
    rw [← h2, (xw_at hp).2] at e
    exact hne i (xw_at hp).1 e.symm)
  have hKK : va_K D vwCl [(cA, .int), (cL, .long)] s := hK.app hK2
  refine va_last hx hb hKK (hP.app hP2) hDD hS 7 1 rfl rfl (vp_in_nI (n := 0) (N := 1) (by decide) (by decide)) hdg (fun H1 locs1 hP hD hS => ?_)
  exact kk H1 locs1 ⟨⟨hP.sub [0, 1, 2, 3, 4, 5, 6] rfl, hD.sub [0, 1, 2, 3, 4, 5, 6] (by decide) rfl, hS, hK, hA9⟩, hP.sub [7] rfl, hAq, hne, hK2⟩
theorem h_ok {y : MethodName} {bytes : ByteArray} {maxL d n index nL : Nat} {ret : Option FieldType} {As st0 : List Value} {r1 : Int32} {S1 : SX} (F : CallFix p m c cc nL s args GT RL) (hM : xMi l D o cA y bytes maxL ret d (.ref (o 0) :: As) S S1 r1)
    (cw : CallW R s args RL RX0 index y bytes maxL ret (.code y bytes maxL ret :: GT) (rmD d) 0 0 n) (hw : hW D o cA q cL z A s H0 S H locs) (hn : As.length = n) (hsize : ls.size = nL) (hst : st0 = As.reverse ++ .ref (o 0) :: rest) (hr : (rest.map fun v => v.category).sum ≤ 8) (hdg : decode cc pc = .ok (.invokevirtual index, 3)) (hf : cells ≤ R.cells ∧ slots ≤ R.slots)
    (kk : ∀ (H1 : Heap) (locs1 : List Loc), hW D o cA q cL z A s H0 S1 H1 locs1 → W p l e R s m args below meth c H1 locs1 cells slots Q (F0 m (pc + 3) ls (.int r1 :: rest))) : W p l e R s m args below meth c H locs cells slots Q (F0 m pc ls st0) :=
  x_ciF F hM cw hw.1 hn hsize hst hr hdg hf (fun H1 locs1 h _ hk => kk H1 locs1 ⟨h, h_keep hw hk, hw.2.2⟩)
theorem h_bad {y : MethodName} {bytes : ByteArray} {maxL n index nL : Nat} {ret : Option FieldType} {As st0 : List Value} {E0 name : String} (F : CallFix p m c cc nL s args GT RL) (hM : xT l D o cA sa sb sc y bytes maxL ret (.ref (o 0) :: As) S E0)
    (cw : CallW R s args RL RX0 index y bytes maxL ret (.code y bytes maxL ret :: GT) rmT 1 6 n) (hw : hW D o cA q cL z (hA o q s.heap.size) s s.heap S H locs) (hE : EN (hA o q s.heap.size) sa sb sc s s.heap) (hn : As.length = n) (hsize : ls.size = nL) (hst : st0 = As.reverse ++ .ref (o 0) :: rest) (hr : (rest.map fun v => v.category).sum ≤ 8) (hdg : decode cc pc = .ok (.invokevirtual index, 3)) (hf : cells + 1 ≤ R.cells ∧ slots + 6 ≤ R.slots)
    (pre : List ExceptionTableEntry) (x : ExceptionTableEntry) (suf : List ExceptionTableEntry) (hsplit : c.exceptionTable.toList = pre ++ x :: suf)
    (hpass : ∀ z ∈ pre, covers z pc = false ∨ (z.catchType ≠ 0 ∧ ∃ nm : String, (Cond.classLink RL z.catchType nm).before args s = true ∧ va_Nc E0 nm s)) (hcov : covers x pc = true) (h0 : x.catchType ≠ 0)
    (hlink : (Cond.classLink RL x.catchType name).before args s = true) (hcast : (Cond.castable E0 name).before args s = true)
    (kk : ∀ (q9 : Nat) (H1 : Heap) (locs1 : List Loc), hW D o cA q cL z (hA o q s.heap.size) s s.heap S H1 locs1 → W p l e R s m args below meth c H1 locs1 (cells + 1) (slots + 6) Q (F0 m x.handlerPc ls [.ref q9])) : W p l e R s m args below meth c H locs cells slots Q (F0 m pc ls st0) := by
  subst hst
  obtain ⟨hP, hD, hS, hK, hA9⟩ := id hw.1
  have hown := F.2.2.2.1
  refine vx_calli (vx_runV (As := As) (rest := rest) F (hM H.size) cw ⟨fun a U g mk h => ?_, ?_, fun U hU hW9 => ⟨rfl, ⟨by rw [hU], by rw [hU]; exact hP, va_K.moved hW9.alike hK, hD.weaken (fun _ _ _ _ => trivial)⟩, ?_⟩⟩ rfl hn hsize rfl (lv_room hr) hdg hf) hS (fun a _ h => x_free hw.1 a h) (x_free hw.1) (fun a _ h => x_free hw.1 a h) (fun E ce q9 u t H1 locs1 ht hvm hpx hBX hz hk hS1 hce hcv hcl => ?_) (fun r u t H1 locs1 ht hvm hp hB hz1 hk1 hS1 => hp.elim)
  · obtain ⟨q0, ⟨q1, qP, qK, qD⟩, qE⟩ := h
    exact ⟨q0, ⟨q1, qP, va_K.moved (u := U) (U := U.calling g mk a) (Vm.Alike.refl U.vm) qK, qD⟩, qE.same (U := U.calling g mk a) rfl⟩
  · exact va_recv hK hP (show vwCl[0]? = some (RX0, TX0, 10) from rfl) (show (xw o cA S)[0]? = _ from rfl)
  · rw [hU]
    exact ((hE.kept hS.2.1).narrow (x_free hw.1)).warm hW9
  · obtain ⟨rfl, hP1, hK1, hD1⟩ := hBX
    rw [ht] at hP1
    exact vx_catch hown pre x suf hsplit hpass hcov h0 hlink hcast hce hcv hcl (kk q9 H1 locs1 ⟨⟨hP1, hD1.weaken (fun k a hk h => x_free hw.1 _ h), hS1, hK, hA9⟩, h_keep hw hk, hw.2.2⟩)
end Helpers

theorem cwl_read {R : Room} {s : State} {args : Array Value} (hts : ∀ w ∈ GT, w.before args s = true) (hR : 6 + 1 ≤ R.frames ∧ 8 + (3 + 11) + 40 * 6 ≤ R.locals) : CallW R s args RL RX0 7 yX0_read cX0_read 3 (some .int) ((.code yX0_read cX0_read 3 (some .int) : Cond) :: GT) (rmD 6) 0 0 2 :=
  cwV 2 hts (show GoodIn GT (wsV RL 7 RX0 yX0_read ((.code yX0_read cX0_read 3 (some .int) : Cond) :: GT)) from lw_gin (lw_gin (lw_gin (lw_gin (lw_gin lw_self gw_117) gw_1) gw_116) gw_115) gw_114) rfl rfl rfl (by decide +kernel) hR
theorem cwl_read_t {R : Room} {s : State} {args : Array Value} (hts : ∀ w ∈ GT, w.before args s = true) (hR : 6 + 1 ≤ R.frames ∧ 8 + (3 + 11) + 100 ≤ R.locals) : CallW R s args RL RX0 7 yX0_read cX0_read 3 (some .int) ((.code yX0_read cX0_read 3 (some .int) : Cond) :: GT) rmT 1 6 2 :=
  cwV 2 hts (show GoodIn GT (wsV RL 7 RX0 yX0_read ((.code yX0_read cX0_read 3 (some .int) : Cond) :: GT)) from lw_gin (lw_gin (lw_gin (lw_gin (lw_gin lw_self gw_117) gw_1) gw_116) gw_115) gw_114) rfl rfl rfl (by decide +kernel) hR
theorem cwl_write {R : Room} {s : State} {args : Array Value} (hts : ∀ w ∈ GT, w.before args s = true) (hR : 6 + 1 ≤ R.frames ∧ 8 + (5 + 11) + 40 * 6 ≤ R.locals) : CallW R s args RL RX0 15 yX0_write cX0_write 5 (some .int) ((.code yX0_write cX0_write 5 (some .int) : Cond) :: GT) (rmD 6) 0 0 3 :=
  cwV 3 hts (show GoodIn GT (wsV RL 15 RX0 yX0_write ((.code yX0_write cX0_write 5 (some .int) : Cond) :: GT)) from lw_gin (lw_gin (lw_gin (lw_gin (lw_gin lw_self gw_147) gw_1) gw_146) gw_145) gw_144) rfl rfl rfl (by decide +kernel) hR
theorem cwl_write_t {R : Room} {s : State} {args : Array Value} (hts : ∀ w ∈ GT, w.before args s = true) (hR : 6 + 1 ≤ R.frames ∧ 8 + (5 + 11) + 100 ≤ R.locals) : CallW R s args RL RX0 15 yX0_write cX0_write 5 (some .int) ((.code yX0_write cX0_write 5 (some .int) : Cond) :: GT) rmT 1 6 3 :=
  cwV 3 hts (show GoodIn GT (wsV RL 15 RX0 yX0_write ((.code yX0_write cX0_write 5 (some .int) : Cond) :: GT)) from lw_gin (lw_gin (lw_gin (lw_gin (lw_gin lw_self gw_147) gw_1) gw_146) gw_145) gw_144) rfl rfl rfl (by decide +kernel) hR
theorem cwl_evict {R : Room} {s : State} {args : Array Value} (hts : ∀ w ∈ GT, w.before args s = true) (hR : 3 + 1 ≤ R.frames ∧ 8 + (3 + 11) + 40 * 3 ≤ R.locals) : CallW R s args RL RX0 19 yX0_evict cX0_evict 3 (some .boolean) ((.code yX0_evict cX0_evict 3 (some .boolean) : Cond) :: GT) (rmD 3) 0 0 2 :=
  cwV 2 hts (show GoodIn GT (wsV RL 19 RX0 yX0_evict ((.code yX0_evict cX0_evict 3 (some .boolean) : Cond) :: GT)) from lw_gin (lw_gin (lw_gin (lw_gin (lw_gin lw_self gw_169) gw_1) gw_168) gw_167) gw_166) rfl rfl rfl (by decide +kernel) hR
theorem cwl_evict_t {R : Room} {s : State} {args : Array Value} (hts : ∀ w ∈ GT, w.before args s = true) (hR : 6 + 1 ≤ R.frames ∧ 8 + (3 + 11) + 100 ≤ R.locals) : CallW R s args RL RX0 19 yX0_evict cX0_evict 3 (some .boolean) ((.code yX0_evict cX0_evict 3 (some .boolean) : Cond) :: GT) rmT 1 6 2 :=
  cwV 2 hts (show GoodIn GT (wsV RL 19 RX0 yX0_evict ((.code yX0_evict cX0_evict 3 (some .boolean) : Cond) :: GT)) from lw_gin (lw_gin (lw_gin (lw_gin (lw_gin lw_self gw_169) gw_1) gw_168) gw_167) gw_166) rfl rfl rfl (by decide +kernel) hR
set_option maxRecDepth 100000 in
set_option maxHeartbeats 4000000 in
theorem ch_read (l : Launch) (hl9 : l.stackTraces = false) (D : va_G) (o : Nat → Nat) (cA : ClassId) (q : Nat) (cL : ClassId) (sa sb sc : Nat) (S : SX) (z : Nat → Int64) (u a : Nat) (hu : u < 4) (ha : a < 32) (hok : okB S) : hM l D o cA q cL sa sb sc yL_read cL_read 5 [(0, 10, 13, 13)] [.ref (o 0), .int (nI u), .int (nI a), .ref q] S z (xBr S u (a / 2) 0) (vp_updL z 0 ((xBr S u (a / 2) 0).1 2 (2 * (2 * u + a / 2 % 2) + a % 2)).toInt64) 0 := by
  intro sz
  refine h_met (by decide) rfl (Nat.le_of_ble_eq_true rfl) ?_
  intro P0 e s m below meth c ls hsz hx hb hml hr hlocks hown hts htab hl hw hE hN
  subst hsz
  have hl : lv_has ls 5 [(0, .ref (o 0)), (1, .int (nI u)), (2, .int (nI a)), (3, .ref q)] := hl
  refine lv_aload_n hx hb dL_read_0 rfl (lv_at hl 3 rfl) ?_
  refine lv_iconst (v := 0) hx hb dL_read_1 (by decide) ?_
  refine lv_aload_n hx hb dL_read_2 rfl (lv_at hl 0 rfl) ?_
  refine lv_iload_n hx hb dL_read_3 rfl (lv_at hl 1 rfl) ?_
  refine lv_iload_n hx hb dL_read_4 rfl (lv_at hl 2 rfl) ?_
  refine h_ok (rest := [.int 0, .ref q]) ⟨hx, hb, hml, hown, hts⟩ (cx_read l D o cA S u a hu ha hok) (cwl_read hts ⟨by decide, by decide⟩) hw rfl hl.1 rfl (Nat.le_of_ble_eq_true rfl) dL_read_5 ⟨Nat.zero_le _, Nat.zero_le _⟩ (fun H locs hw => ?_)
  refine lv_i2l (v := ((xBr S u (a / 2) 0).1 2 (2 * (2 * u + a / 2 % 2) + a % 2)).toInt64) hx hb dL_read_8 rfl ?_
  refine h_last hx hb hw dL_read_9 (fun H locs hw => ?_)
  refine lv_goto (tgt := 17) hx hb dL_read_10 (by decide) ?_
  refine lv_iconst (v := 0) hx hb dL_read_17 (by decide) ?_
  refine W.widen (k := 1) (n := 6) (by decide) (by decide) ?_
  exact h_ret hx hb hr hlocks hw ⟨rfl, rfl, rfl⟩ dL_read_18
set_option maxRecDepth 100000 in
set_option maxHeartbeats 4000000 in
theorem ch_write (l : Launch) (hl9 : l.stackTraces = false) (D : va_G) (o : Nat → Nat) (cA : ClassId) (q : Nat) (cL : ClassId) (sa sb sc : Nat) (S : SX) (z : Nat → Int64) (u a : Nat) (w : Int32) (hu : u < 4) (ha : a < 32) (hok : okB S) : hM l D o cA q cL sa sb sc yL_write cL_write 6 [(0, 12, 15, 13)] [.ref (o 0), .int (nI u), .int (nI a), .int w, .ref q] S z (xWr S u a w) (vp_updL z 0 ((xWr S u a w).2 1 - S.2 1).toInt64) 0 := by
  intro sz
  refine h_met (by decide) rfl (Nat.le_of_ble_eq_true rfl) ?_
  intro P0 e s m below meth c ls hsz hx hb hml hr hlocks hown hts htab hl hw hE hN
  subst hsz
  have hl : lv_has ls 6 [(0, .ref (o 0)), (1, .int (nI u)), (2, .int (nI a)), (3, .int w), (4, .ref q)] := hl
  refine lv_aload hx hb dL_write_0 (lv_at hl 4 rfl) ?_
  refine lv_iconst (v := 0) hx hb dL_write_2 (by decide) ?_
  refine lv_aload_n hx hb dL_write_3 rfl (lv_at hl 0 rfl) ?_
  refine lv_iload_n hx hb dL_write_4 rfl (lv_at hl 1 rfl) ?_
  refine lv_iload_n hx hb dL_write_5 rfl (lv_at hl 2 rfl) ?_
  refine lv_iload_n hx hb dL_write_6 rfl (lv_at hl 3 rfl) ?_
  refine h_ok (rest := [.int 0, .ref q]) ⟨hx, hb, hml, hown, hts⟩ (cx_write l D o cA S u a w hu ha hok) (cwl_write hts ⟨by decide, by decide⟩) hw rfl hl.1 rfl (Nat.le_of_ble_eq_true rfl) dL_write_7 ⟨Nat.zero_le _, Nat.zero_le _⟩ (fun H locs hw => ?_)
  refine lv_i2l (v := ((xWr S u a w).2 1 - S.2 1).toInt64) hx hb dL_write_10 rfl ?_
  refine h_last hx hb hw dL_write_11 (fun H locs hw => ?_)
  refine lv_goto (tgt := 19) hx hb dL_write_12 (by decide) ?_
  refine lv_iconst (v := 0) hx hb dL_write_19 (by decide) ?_
  refine W.widen (k := 1) (n := 6) (by decide) (by decide) ?_
  exact h_ret hx hb hr hlocks hw ⟨rfl, rfl, rfl⟩ dL_write_20
set_option maxRecDepth 100000 in
set_option maxHeartbeats 4000000 in
theorem ch_evict (l : Launch) (hl9 : l.stackTraces = false) (D : va_G) (o : Nat → Nat) (cA : ClassId) (q : Nat) (cL : ClassId) (sa sb sc : Nat) (S : SX) (z : Nat → Int64) (u b : Nat) (hu : u < 4) (hbb : b < 16) (hok : okB S) (hh : xHo S u b = true) : hM l D o cA q cL sa sb sc yL_evict cL_evict 5 [(0, 17, 20, 13), (0, 17, 24, 23)] [.ref (o 0), .int (nI u), .int (nI b), .ref q] S z (xEm S (2 * u + b % 2)) (vp_updL z 0 (if xDi (S.1 0 (2 * u + b % 2)) = true then 1 else 0)) 0 := by
  intro sz
  refine h_met (by decide) rfl (Nat.le_of_ble_eq_true rfl) ?_
  intro P0 e s m below meth c ls hsz hx hb hml hr hlocks hown hts htab hl hw hE hN
  subst hsz
  have hl : lv_has ls 5 [(0, .ref (o 0)), (1, .int (nI u)), (2, .int (nI b)), (3, .ref q)] := hl
  refine lv_aload_n hx hb dL_evict_0 rfl (lv_at hl 3 rfl) ?_
  refine lv_iconst (v := 0) hx hb dL_evict_1 (by decide) ?_
  refine lv_aload_n hx hb dL_evict_2 rfl (lv_at hl 0 rfl) ?_
  refine lv_iload_n hx hb dL_evict_3 rfl (lv_at hl 1 rfl) ?_
  refine lv_iload_n hx hb dL_evict_4 rfl (lv_at hl 2 rfl) ?_
  refine h_ok (rest := [.int 0, .ref q]) ⟨hx, hb, hml, hown, hts⟩ (cx_evict l D o cA S u b hu hbb hok hh) (cwl_evict hts ⟨by decide, by decide⟩) hw rfl hl.1 rfl (Nat.le_of_ble_eq_true rfl) dL_evict_5 ⟨Nat.zero_le _, Nat.zero_le _⟩ (fun H locs hw => ?_)
  refine lv_if_eq (tgt := 15) hx hb dL_evict_8 (by decide) (fun g1 => ?_) (fun g1 => ?_)
  · have g1 := bI_z.mp g1
    refine lv_lconst (v := 0) hx hb dL_evict_15 (by decide) ?_
    refine h_last hx hb hw dL_evict_16 (fun H locs hw => ?_)
    refine lv_goto (tgt := 28) hx hb dL_evict_17 (by decide) ?_
    refine lv_iconst (v := 0) hx hb dL_evict_28 (by decide) ?_
    refine W.widen (k := 1) (n := 6) (by decide) (by decide) ?_
    exact h_ret hx hb hr hlocks hw ⟨rfl, rfl, by rw [g1]; rfl⟩ dL_evict_29
  · have g1 := bI_n.mp g1
    refine lv_lconst (v := 1) hx hb dL_evict_11 (by decide) ?_
    refine lv_goto (tgt := 16) hx hb dL_evict_12 (by decide) ?_
    refine h_last hx hb hw dL_evict_16 (fun H locs hw => ?_)
    refine lv_goto (tgt := 28) hx hb dL_evict_17 (by decide) ?_
    refine lv_iconst (v := 0) hx hb dL_evict_28 (by decide) ?_
    refine W.widen (k := 1) (n := 6) (by decide) (by decide) ?_
    exact h_ret hx hb hr hlocks hw ⟨rfl, rfl, by rw [g1]; rfl⟩ dL_evict_29
set_option maxRecDepth 100000 in
set_option maxHeartbeats 4000000 in
theorem ch_read_bad (l : Launch) (hl9 : l.stackTraces = false) (D : va_G) (o : Nat → Nat) (cA : ClassId) (q : Nat) (cL : ClassId) (sa sb sc : Nat) (S : SX) (z : Nat → Int64) (x y : Int32) (hbad : (inR x 4 && inR y 32) = false) : hM l D o cA q cL sa sb sc yL_read cL_read 5 [(0, 10, 13, 13)] [.ref (o 0), .int x, .int y, .ref q] S z (S) (z) 1 := by
  intro sz
  refine h_met (by decide) rfl (Nat.le_of_ble_eq_true rfl) ?_
  intro P0 e s m below meth c ls hsz hx hb hml hr hlocks hown hts htab hl hw hE hN
  subst hsz
  have hl : lv_has ls 5 [(0, .ref (o 0)), (1, .int x), (2, .int y), (3, .ref q)] := hl
  refine lv_aload_n hx hb dL_read_0 rfl (lv_at hl 3 rfl) ?_
  refine lv_iconst (v := 0) hx hb dL_read_1 (by decide) ?_
  refine lv_aload_n hx hb dL_read_2 rfl (lv_at hl 0 rfl) ?_
  refine lv_iload_n hx hb dL_read_3 rfl (lv_at hl 1 rfl) ?_
  refine lv_iload_n hx hb dL_read_4 rfl (lv_at hl 2 rfl) ?_
  refine h_bad (rest := [.int 0, .ref q]) (name := "java/lang/IllegalArgumentException") ⟨hx, hb, hml, hown, hts⟩ (cx_read_bad l hl9 D o cA sa sb sc S x y hbad) (cwl_read_t hts ⟨by decide, by decide⟩) hw hE rfl hl.1 rfl (Nat.le_of_ble_eq_true rfl) dL_read_5 ⟨by decide, by decide⟩ [] ⟨0, 10, 13, 13⟩ [] htab (fun z9 h9 => absurd h9 List.not_mem_nil) (by decide) (by decide) (hts (.classLink RL 13 "java/lang/IllegalArgumentException") gw_113) (va_Nw.use rfl hE.2.2.2.2.2.1) (fun q9 H locs hw => ?_)
  refine lv_astore (lv' := [(4, .ref q9), (0, .ref (o 0)), (1, .int x), (2, .int y), (3, .ref q)]) hx hb dL_read_13 hl (by decide) rfl (fun ls hl => ?_)
  refine lv_iconst (v := 1) hx hb dL_read_15 (by decide) ?_
  exact h_ret hx hb hr hlocks hw ⟨rfl, rfl, rfl⟩ dL_read_16
set_option maxRecDepth 100000 in
set_option maxHeartbeats 4000000 in
theorem ch_write_bad (l : Launch) (hl9 : l.stackTraces = false) (D : va_G) (o : Nat → Nat) (cA : ClassId) (q : Nat) (cL : ClassId) (sa sb sc : Nat) (S : SX) (z : Nat → Int64) (x y w : Int32) (hbad : (inR x 4 && inR y 32) = false) : hM l D o cA q cL sa sb sc yL_write cL_write 6 [(0, 12, 15, 13)] [.ref (o 0), .int x, .int y, .int w, .ref q] S z (S) (z) 1 := by
  intro sz
  refine h_met (by decide) rfl (Nat.le_of_ble_eq_true rfl) ?_
  intro P0 e s m below meth c ls hsz hx hb hml hr hlocks hown hts htab hl hw hE hN
  subst hsz
  have hl : lv_has ls 6 [(0, .ref (o 0)), (1, .int x), (2, .int y), (3, .int w), (4, .ref q)] := hl
  refine lv_aload hx hb dL_write_0 (lv_at hl 4 rfl) ?_
  refine lv_iconst (v := 0) hx hb dL_write_2 (by decide) ?_
  refine lv_aload_n hx hb dL_write_3 rfl (lv_at hl 0 rfl) ?_
  refine lv_iload_n hx hb dL_write_4 rfl (lv_at hl 1 rfl) ?_
  refine lv_iload_n hx hb dL_write_5 rfl (lv_at hl 2 rfl) ?_
  refine lv_iload_n hx hb dL_write_6 rfl (lv_at hl 3 rfl) ?_
  refine h_bad (rest := [.int 0, .ref q]) (name := "java/lang/IllegalArgumentException") ⟨hx, hb, hml, hown, hts⟩ (cx_write_bad l hl9 D o cA sa sb sc S x y w hbad) (cwl_write_t hts ⟨by decide, by decide⟩) hw hE rfl hl.1 rfl (Nat.le_of_ble_eq_true rfl) dL_write_7 ⟨by decide, by decide⟩ [] ⟨0, 12, 15, 13⟩ [] htab (fun z9 h9 => absurd h9 List.not_mem_nil) (by decide) (by decide) (hts (.classLink RL 13 "java/lang/IllegalArgumentException") gw_113) (va_Nw.use rfl hE.2.2.2.2.2.1) (fun q9 H locs hw => ?_)
  refine lv_astore (lv' := [(5, .ref q9), (0, .ref (o 0)), (1, .int x), (2, .int y), (3, .int w), (4, .ref q)]) hx hb dL_write_15 hl (by decide) rfl (fun ls hl => ?_)
  refine lv_iconst (v := 1) hx hb dL_write_17 (by decide) ?_
  exact h_ret hx hb hr hlocks hw ⟨rfl, rfl, rfl⟩ dL_write_18
set_option maxRecDepth 100000 in
set_option maxHeartbeats 4000000 in
theorem ch_evict_bad (l : Launch) (hl9 : l.stackTraces = false) (D : va_G) (o : Nat → Nat) (cA : ClassId) (q : Nat) (cL : ClassId) (sa sb sc : Nat) (S : SX) (z : Nat → Int64) (x y : Int32) (hbad : (inR x 4 && inR y 16) = false) : hM l D o cA q cL sa sb sc yL_evict cL_evict 5 [(0, 17, 20, 13), (0, 17, 24, 23)] [.ref (o 0), .int x, .int y, .ref q] S z (S) (z) 1 := by
  intro sz
  refine h_met (by decide) rfl (Nat.le_of_ble_eq_true rfl) ?_
  intro P0 e s m below meth c ls hsz hx hb hml hr hlocks hown hts htab hl hw hE hN
  subst hsz
  have hl : lv_has ls 5 [(0, .ref (o 0)), (1, .int x), (2, .int y), (3, .ref q)] := hl
  refine lv_aload_n hx hb dL_evict_0 rfl (lv_at hl 3 rfl) ?_
  refine lv_iconst (v := 0) hx hb dL_evict_1 (by decide) ?_
  refine lv_aload_n hx hb dL_evict_2 rfl (lv_at hl 0 rfl) ?_
  refine lv_iload_n hx hb dL_evict_3 rfl (lv_at hl 1 rfl) ?_
  refine lv_iload_n hx hb dL_evict_4 rfl (lv_at hl 2 rfl) ?_
  refine h_bad (rest := [.int 0, .ref q]) (name := "java/lang/IllegalArgumentException") ⟨hx, hb, hml, hown, hts⟩ (cx_evict_bad l hl9 D o cA sa sb sc S x y hbad) (cwl_evict_t hts ⟨by decide, by decide⟩) hw hE rfl hl.1 rfl (Nat.le_of_ble_eq_true rfl) dL_evict_5 ⟨by decide, by decide⟩ [] ⟨0, 17, 20, 13⟩ [⟨0, 17, 24, 23⟩] htab (fun z9 h9 => absurd h9 List.not_mem_nil) (by decide) (by decide) (hts (.classLink RL 13 "java/lang/IllegalArgumentException") gw_113) (va_Nw.use rfl hE.2.2.2.2.2.1) (fun q9 H locs hw => ?_)
  refine lv_astore (lv' := [(4, .ref q9), (0, .ref (o 0)), (1, .int x), (2, .int y), (3, .ref q)]) hx hb dL_evict_20 hl (by decide) rfl (fun ls hl => ?_)
  refine lv_iconst (v := 1) hx hb dL_evict_22 (by decide) ?_
  exact h_ret hx hb hr hlocks hw ⟨rfl, rfl, rfl⟩ dL_evict_23
set_option maxRecDepth 100000 in
set_option maxHeartbeats 4000000 in
theorem ch_evict_no (l : Launch) (hl9 : l.stackTraces = false) (D : va_G) (o : Nat → Nat) (cA : ClassId) (q : Nat) (cL : ClassId) (sa sb sc : Nat) (S : SX) (z : Nat → Int64) (u b : Nat) (hu : u < 4) (hbb : b < 16) (hh : xHo S u b = false) : hM l D o cA q cL sa sb sc yL_evict cL_evict 5 [(0, 17, 20, 13), (0, 17, 24, 23)] [.ref (o 0), .int (nI u), .int (nI b), .ref q] S z (S) (z) 2 := by
  intro sz
  refine h_met (by decide) rfl (Nat.le_of_ble_eq_true rfl) ?_
  intro P0 e s m below meth c ls hsz hx hb hml hr hlocks hown hts htab hl hw hE hN
  subst hsz
  have hl : lv_has ls 5 [(0, .ref (o 0)), (1, .int (nI u)), (2, .int (nI b)), (3, .ref q)] := hl
  refine lv_aload_n hx hb dL_evict_0 rfl (lv_at hl 3 rfl) ?_
  refine lv_iconst (v := 0) hx hb dL_evict_1 (by decide) ?_
  refine lv_aload_n hx hb dL_evict_2 rfl (lv_at hl 0 rfl) ?_
  refine lv_iload_n hx hb dL_evict_3 rfl (lv_at hl 1 rfl) ?_
  refine lv_iload_n hx hb dL_evict_4 rfl (lv_at hl 2 rfl) ?_
  refine h_bad (rest := [.int 0, .ref q]) (name := "java/lang/IllegalStateException") ⟨hx, hb, hml, hown, hts⟩ (cx_evict_no l hl9 D o cA sa sb sc S u b hu hbb hh) (cwl_evict_t hts ⟨by decide, by decide⟩) hw hE rfl hl.1 rfl (Nat.le_of_ble_eq_true rfl) dL_evict_5 ⟨by decide, by decide⟩ [⟨0, 17, 20, 13⟩] ⟨0, 17, 24, 23⟩ [] htab (fun z9 h9 => Or.inr ⟨by rw [List.mem_singleton.mp h9]; decide, "java/lang/IllegalArgumentException", by rw [List.mem_singleton.mp h9]; exact hts (.classLink RL 13 "java/lang/IllegalArgumentException") gw_113, hN⟩) (by decide) (by decide) (hts (.classLink RL 23 "java/lang/IllegalStateException") gw_165) (va_Nw.use rfl hE.2.2.2.2.2.2.1) (fun q9 H locs hw => ?_)
  refine lv_astore (lv' := [(4, .ref q9), (0, .ref (o 0)), (1, .int (nI u)), (2, .int (nI b)), (3, .ref q)]) hx hb dL_evict_24 hl (by decide) rfl (fun ls hl => ?_)
  refine lv_iconst (v := 2) hx hb dL_evict_26 (by decide) ?_
  exact h_ret hx hb hr hlocks hw ⟨rfl, rfl, rfl⟩ dL_evict_27
end
section
def lA (s : State) : Nat → Prop := fun a => s.heap.size ≤ a
def LW (D : va_G) (ox om : Nat → Nat) (cA cB : ClassId) (q : Nat) (cL : ClassId) (z : Nat → Int64) (s : State) (S M : SX) (H : Heap) (locs : List Loc) : Prop :=
  hW D ox cA q cL z (lA s) s s.heap S H locs ∧ mW D om cB (lA s) s s.heap M H locs ∧ (∀ j, j < 6 → q ≠ om j) ∧ ∀ i j, i < 7 → j < 6 → ox i ≠ om j
theorem xw_D {A : Nat → Prop} {o : Nat → Nat} {cA : ClassId} {S S' : SX} (h : va_D A (xw o cA S)) : va_D A (xw o cA S') := by
  refine ⟨fun i j p q hp hq e => ?_, fun i q hq => ?_⟩
  · obtain ⟨e1, p1⟩ := xw_is (o := o) (cA := cA) (S := S) (xw_at hp).1
    obtain ⟨e2, p2⟩ := xw_is (o := o) (cA := cA) (S := S) (xw_at hq).1
    exact h.1 i j _ _ p1 p2 (by rw [← (xw_at hp).2, ← (xw_at hq).2]; exact e)
  · obtain ⟨e1, p1⟩ := xw_is (o := o) (cA := cA) (S := S) (xw_at hq).1
    rw [(xw_at hq).2]
    exact h.2 i _ p1
theorem lg_self (x : Int64) : lg_cmp x x = 0 := by
  unfold lg_cmp
  rw [if_neg (by rw [gt_iff_lt, Int64.lt_iff_toInt_lt]; omega), if_pos rfl]
theorem l_gt {L i : Nat} (hL : L ≤ 2048) (hi : i ≤ 4096) : nI L - 4 < nI i ↔ L < i + 4 := by
  have e : (nI L - 4).toInt = (L : Int) - 4 := pk_sub_toInt (a := L) (b := 4) (by omega) (by decide)
  rw [Int32.lt_iff_toInt_lt, e, nI_toInt (by omega)]
  omega
section LawRows
variable {p : Program} {l : Launch} {e : Env} {R : Room} {s : State} {m : MethodId} {args : Array Value} {below : List Frame} {meth : Method} {c : Code} {H : Heap} {locs : List Loc} {cells slots : Nat} {Q : State → Prop}
variable {cc : ByteArray} {pc : Nat} {ls : Array Slot} {rest : List Value} {D : va_G} {A : Nat → Prop} {H0 : Heap} {o : Nat → Nat} {cA : ClassId} {S : SX}
variable {ox om : Nat → Nat} {cB cL : ClassId} {q sa sb sc : Nat} {z : Nat → Int64} {M : SX}
theorem l_mk {H1 : Heap} {locs1 : List Loc} (hw : LW D ox om cA cB q cL z s S M H locs) (hk : ∀ a : Nat, a < H.size → ¬ hA ox q H.size a → H1[a]? = H[a]?) (hS : va_S (lA s) s.heap H1 locs1) : mW D om cB (lA s) s s.heap M H1 locs1 := by
  obtain ⟨-, ⟨hP, hD, -, hK, hA9⟩, h1, h2⟩ := hw
  refine ⟨hP.kept (fun k x hx => ?_), hD, hS, hK, hA9⟩
  have hlt := (hP k x hx).lt
  refine hk x.1 hlt (fun h => ?_)
  obtain ⟨g1, g2⟩ := mw_at hx
  rcases h with (⟨i, hi, e⟩ | h) | h
  · exact h2 i k hi g1 (e.symm.trans g2)
  · exact absurd hlt (Nat.not_lt.mpr h)
  · exact h1 k g1 (h.symm.trans g2)
theorem l_xi {y : MethodName} {bytes : ByteArray} {maxL d n index nL : Nat} {ret : Option FieldType} {As st0 : List Value} {r1 : Int32} {S1 : SX} (F : CallFix p m c cc nL s args GT RL) (hM : xMi l D ox cA y bytes maxL ret d (.ref (ox 0) :: As) S S1 r1)
    (cw : CallW R s args RL RX0 index y bytes maxL ret (.code y bytes maxL ret :: GT) (rmD d) 0 0 n) (hw : LW D ox om cA cB q cL z s S M H locs) (hn : As.length = n) (hsize : ls.size = nL) (hst : st0 = As.reverse ++ .ref (ox 0) :: rest) (hr : (rest.map fun v => v.category).sum ≤ 8) (hdg : decode cc pc = .ok (.invokevirtual index, 3)) (hf : cells ≤ R.cells ∧ slots ≤ R.slots)
    (kk : ∀ (H1 : Heap) (locs1 : List Loc), LW D ox om cA cB q cL z s S1 M H1 locs1 → W p l e R s m args below meth c H1 locs1 cells slots Q (F0 m (pc + 3) ls (.int r1 :: rest))) : W p l e R s m args below meth c H locs cells slots Q (F0 m pc ls st0) :=
  x_ciF F hM cw hw.1.1 hn hsize hst hr hdg hf (fun H1 locs1 h _ hk => kk H1 locs1 ⟨⟨h, h_keep hw.1 hk, hw.1.2.2⟩, l_mk hw (fun a h1 h2 => hk a h1 (fun h3 => h2 (Or.inl h3))) h.2.2.1, hw.2.2⟩)
theorem l_mi {y : MethodName} {bytes : ByteArray} {maxL d n index nL : Nat} {ret : Option FieldType} {As st0 : List Value} {r1 : Int32} {M1 : SX} (F : CallFix p m c cc nL s args GT RL) (hM : mMi l D om cB y bytes maxL ret d (.ref (om 0) :: As) M M1 r1)
    (cw : CallW R s args RL RX1 index y bytes maxL ret (.code y bytes maxL ret :: GT) (rmD d) 0 0 n) (hw : LW D ox om cA cB q cL z s S M H locs) (hn : As.length = n) (hsize : ls.size = nL) (hst : st0 = As.reverse ++ .ref (om 0) :: rest) (hr : (rest.map fun v => v.category).sum ≤ 8) (hdg : decode cc pc = .ok (.invokevirtual index, 3)) (hf : cells ≤ R.cells ∧ slots ≤ R.slots)
    (kk : ∀ (H1 : Heap) (locs1 : List Loc), LW D ox om cA cB q cL z s S M1 H1 locs1 → W p l e R s m args below meth c H1 locs1 cells slots Q (F0 m (pc + 3) ls (.int r1 :: rest))) : W p l e R s m args below meth c H locs cells slots Q (F0 m pc ls st0) := by
  refine m_ciF F hM cw hw.2.1 hn hsize hst hr hdg hf (fun H1 locs1 h _ hk => kk H1 locs1 ⟨⟨⟨?_, hw.1.1.2.1, h.2.2.1, hw.1.1.2.2.2⟩, ?_, hw.1.2.2⟩, h, hw.2.2⟩)
  · refine hw.1.1.1.kept (fun k x hx => ?_)
    have hlt := (hw.1.1.1 k x hx).lt
    refine hk x.1 hlt (fun h3 => ?_)
    obtain ⟨g1, g2⟩ := xw_at hx
    rcases h3 with ⟨j, hj, e⟩ | h3
    · exact hw.2.2.2 k j g1 hj (g2.symm.trans e)
    · exact absurd hlt (Nat.not_lt.mpr h3)
  · refine hw.1.2.1.kept (fun k x hx => ?_)
    have hlt := (hw.1.2.1 k x hx).lt
    have hk0 : k < 1 := (List.getElem?_eq_some_iff.mp hx).1
    obtain rfl : k = 0 := by omega
    have h2 := Option.some.inj hx
    refine hk x.1 hlt (fun h3 => ?_)
    rw [← h2] at h3 hlt
    rcases h3 with ⟨j, hj, e⟩ | h3
    · exact hw.2.2.1 j hj e
    · exact absurd hlt (Nat.not_lt.mpr h3)
theorem l_h {y : MethodName} {bytes : ByteArray} {maxL n index nL : Nat} {hh : List (Nat × Nat × Nat × Nat)} {As st0 : List Value} {r1 : Int32} {S1 : SX} {z1 : Nat → Int64} (F : CallFix p m c cc nL s args GT RL) (hM9 : hM l D ox cA q cL sa sb sc y bytes maxL hh As S z S1 z1 r1)
    (cw : vx_CSW R s args RL index y bytes maxL (some .int) hh (.codeWith y bytes maxL (some .int) hh :: GT) rmH 1 6 n) (hw : LW D ox om cA cB q cL z s S M H locs) (hE : EN (lA s) sa sb sc s s.heap) (hN : va_Nc "java/lang/IllegalStateException" "java/lang/IllegalArgumentException" s) (hn : As.length = n) (hsize : ls.size = nL) (hst : st0 = As.reverse ++ rest) (hr : (rest.map fun v => v.category).sum ≤ 8) (hdg : decode cc pc = .ok (.invokestatic index, 3)) (hf : cells + 1 ≤ R.cells ∧ slots + 6 ≤ R.slots)
    (kk : ∀ (H1 : Heap) (locs1 : List Loc), LW D ox om cA cB q cL z1 s S1 M H1 locs1 → W p l e R s m args below meth c H1 locs1 (cells + 1) (slots + 6) Q (F0 m (pc + 3) ls (.int r1 :: rest))) : W p l e R s m args below meth c H locs cells slots Q (F0 m pc ls st0) := by
  subst hst
  obtain ⟨hP, hD, hS, hK, hA9⟩ := id hw.1.1
  have hfr : ∀ a, hA ox q H.size a → lA s a := fun a h => by
    rcases h with h | h
    · exact x_free hw.1.1 a h
    · rw [h]
      exact hw.1.2.2.1
  refine va_calli (vx_runSW (As := As) (rest := rest) F (hM9 H.size) cw ⟨fun a U g mk h => ?_, fun U hU hW9 => ⟨rfl, ⟨by rw [hU], by rw [hU]; exact hP, va_K.moved hW9.alike hK, hD.weaken (fun _ _ _ _ => trivial)⟩, by rw [hU]; exact hw.1.2.1, va_K.moved hW9.alike hw.1.2.2.2.2, hw.1.2.2.2.1, by rw [hU]; exact ((hE.kept hS.2.1).narrow hfr).warm hW9, hN.moved hW9.alike⟩⟩ rfl hn hsize rfl (lv_room hr) hdg hf) hS (fun a _ h => hfr a h) hfr (fun r u t H1 locs1 ht hvm hp hB hz1 hk1 hS1 => ?_)
  · obtain ⟨q0, ⟨q1, qP, qK, qD⟩, g1, g2, g3, g4, g5⟩ := h
    exact ⟨q0, ⟨q1, qP, va_K.moved (u := U) (U := U.calling g mk a) (Vm.Alike.refl U.vm) qK, qD⟩, g1, va_K.moved (u := U) (U := U.calling g mk a) (Vm.Alike.refl U.vm) g2, g3, g4.same (U := U.calling g mk a) rfl, g5.moved (U := U.calling g mk a) (Vm.Alike.refl U.vm)⟩
  · subst hp
    obtain ⟨hP1, hP2⟩ := hB
    rw [ht] at hP1 hP2
    exact kk H1 locs1 ⟨⟨⟨hP1, xw_D hD, hS1, hK, hA9⟩, hP2, hw.1.2.2⟩, l_mk hw hk1 hS1, hw.2.2⟩
theorem l_sld {b L k : Nat} {xs : Nat → Int32} (hx : p.tables.exec = Jvm.exec) (hb : c.code = cc) (hX : va_X b L xs s s.heap) (hbl : b < s.heap.size) (hw : LW D ox om cA cB q cL z s S M H locs) (hk : k < L) (hL : L ≤ 2048) (hdg : decode cc pc = .ok (.iaload, 1))
    (kk : W p l e R s m args below meth c H locs cells slots Q (F0 m (pc + 1) ls (.int (xs k) :: rest))) : W p l e R s m args below meth c H locs cells slots Q (F0 m pc ls (.int (nI k) :: .ref b :: rest)) := by
  refine va_sld hx hb hX hbl (show ¬ lA s b from Nat.not_le.mpr hbl) hw.1.1.2.2.1 (vp_in_nI hk (by omega)) hdg ?_
  rw [nI_clamp (by omega)]
  exact kk
theorem l_len {b L : Nat} {xs : Nat → Int32} (hx : p.tables.exec = Jvm.exec) (hb : c.code = cc) (hX : va_X b L xs s s.heap) (hbl : b < s.heap.size) (hw : LW D ox om cA cB q cL z s S M H locs) (hdg : decode cc pc = .ok (.arraylength, 1))
    (kk : W p l e R s m args below meth c H locs cells slots Q (F0 m (pc + 1) ls (.int (nI L) :: rest))) : W p l e R s m args below meth c H locs cells slots Q (F0 m pc ls (.ref b :: rest)) :=
  va_slen hx hb hX hbl (show ¬ lA s b from Nat.not_le.mpr hbl) hw.1.1.2.2.1 hdg kk
theorem l_lald (hx : p.tables.exec = Jvm.exec) (hb : c.code = cc) (hw : LW D ox om cA cB q cL z s S M H locs) (hdg : decode cc pc = .ok (.laload, 1))
    (kk : W p l e R s m args below meth c H locs cells slots Q (F0 m (pc + 1) ls (.long (z 0) :: rest))) : W p l e R s m args below meth c H locs cells slots Q (F0 m pc ls (.int 0 :: .ref q :: rest)) :=
  va_lald hx hb hw.1.2.2.2.2 hw.1.2.1 0 0 rfl rfl (vp_in_nI (n := 0) (N := 1) (by decide) (by decide)) hdg kk
end LawRows
theorem l_EN {s : State} {b : Nat} (hts : ∀ w ∈ lw_tbl, w.before #[Value.ref b] s = true) (hg : (Jvm.Cond.and given_1 narrow_1).before #[Value.ref b] s = true) : ∃ sa sb sc : Nat, EN (lA s) sa sb sc s s.heap ∧ va_Nc "java/lang/IllegalStateException" "java/lang/IllegalArgumentException" s := by
  have hs := flat_of_before _ hg
  have hnA : ∀ a : Nat, a < s.heap.size → ¬ lA s a := fun a h => Nat.not_le.mpr h
  have st : ∀ (k : Nat) (tx : String), (Cond.stringRef RX0 k tx).before #[Value.ref b] s = true → (Cond.exactly (.string RX0 k) "java/lang/String").before #[Value.ref b] s = true → ∃ a, vk_R RX0 k tx a s := fun k tx h1 h2 => by
    obtain ⟨a, c9, cA, kA, q1, -⟩ := Cond.exactly_spec (args := #[Value.ref b]) (first := s) (o := none) (s := s) (idx := []) (t := .string RX0 k) (cls := "java/lang/String") h2
    exact ⟨a, vk_R.of h1 q1⟩
  obtain ⟨sa, h3⟩ := st 45 "no such processor or address" (hts _ (by decide +kernel)) (hs _ (by decide +kernel))
  obtain ⟨sb, h4⟩ := st 79 "no such processor or block" (hts _ (by decide +kernel)) (hs _ (by decide +kernel))
  obtain ⟨sc, h5⟩ := st 87 "the cache does not hold the block" (hts _ (by decide +kernel)) (hs _ (by decide +kernel))
  refine ⟨sa, sb, sc, ⟨vx_Zqof (hts _ (by decide +kernel)) (hts _ (by decide +kernel)) (hs _ (by decide +kernel)) hnA, vx_Zqof (hts _ (by decide +kernel)) (hts _ (by decide +kernel)) (hs _ (by decide +kernel)) hnA, h3, h4, h5, va_Nw.of rfl (hts (.castable "java/lang/IllegalArgumentException" "java/lang/IllegalArgumentException") (by decide +kernel)), va_Nw.of rfl (hts (.castable "java/lang/IllegalStateException" "java/lang/IllegalStateException") (by decide +kernel)), va_Nw.of rfl (hts (.declares (⟨"java/lang/RuntimeException", "<init>", "(Ljava/lang/String;)V"⟩ : MethodName)) (by decide +kernel)), va_Nw.of rfl (hts (.declares (⟨"java/lang/Exception", "<init>", "(Ljava/lang/String;)V"⟩ : MethodName)) (by decide +kernel)), va_Nw.of rfl (hts (.declares (⟨"java/lang/Throwable", "<init>", "(Ljava/lang/String;)V"⟩ : MethodName)) (by decide +kernel))⟩, va_Nc.of (hs _ (by decide +kernel))⟩
end
