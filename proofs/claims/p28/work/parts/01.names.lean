-- ===== PART A: goes FIRST, ahead of the names: the tables' words, and 'selects' of the private methods out of them =====
/-- a private method of a class that the tables say can be made, by its rows of tables_1 -/
def lw_okq (q : MethodName × Nat) : Prop := (q.1.cls ≠ "java/lang/invoke/MethodHandle" ∧ q.1.cls ≠ "java/lang/invoke/VarHandle") ∧ Cond.instantiable q.1.cls q.2 ∈ tables_1 ∧ Cond.privateMethod q.1 ∈ tables_1 ∧ Cond.instanceMethod q.1 ∈ tables_1
theorem lw_p0 : lw_okq (⟨"java/lang/Throwable", "fillInStackTrace", "(I)Ljava/lang/Throwable;"⟩, 6) := ⟨⟨by decide +kernel, by decide +kernel⟩, List.mem_of_getElem? (i := 273) (by decide +kernel), List.mem_of_getElem? (i := 271) (by decide +kernel), List.mem_of_getElem? (i := 272) (by decide +kernel)⟩
theorem lw_p1 : lw_okq (⟨"IronbridgeCache", "checkClient", "(I)V"⟩, 2) := ⟨⟨by decide +kernel, by decide +kernel⟩, List.mem_of_getElem? (i := 16) (by decide +kernel), List.mem_of_getElem? (i := 337) (by decide +kernel), List.mem_of_getElem? (i := 338) (by decide +kernel)⟩
theorem lw_p2 : lw_okq (⟨"IronbridgeCache$Net", "sendStore", "(II)V"⟩, 8) := ⟨⟨by decide +kernel, by decide +kernel⟩, List.mem_of_getElem? (i := 24) (by decide +kernel), List.mem_of_getElem? (i := 373) (by decide +kernel), List.mem_of_getElem? (i := 374) (by decide +kernel)⟩
theorem lw_p3 : lw_okq (⟨"IronbridgeCache$Net", "send", "(IIIIII)V"⟩, 8) := ⟨⟨by decide +kernel, by decide +kernel⟩, List.mem_of_getElem? (i := 24) (by decide +kernel), List.mem_of_getElem? (i := 377) (by decide +kernel), List.mem_of_getElem? (i := 378) (by decide +kernel)⟩
theorem lw_p4 : lw_okq (⟨"IronbridgeCache$Net", "slotAt", "(I)LIronbridgeCache$Table;"⟩, 8) := ⟨⟨by decide +kernel, by decide +kernel⟩, List.mem_of_getElem? (i := 24) (by decide +kernel), List.mem_of_getElem? (i := 381) (by decide +kernel), List.mem_of_getElem? (i := 382) (by decide +kernel)⟩
theorem lw_p5 : lw_okq (⟨"IronbridgeCache$Table", "isCell", "(II)Z"⟩, 3) := ⟨⟨by decide +kernel, by decide +kernel⟩, List.mem_of_getElem? (i := 43) (by decide +kernel), List.mem_of_getElem? (i := 400) (by decide +kernel), List.mem_of_getElem? (i := 401) (by decide +kernel)⟩
theorem lw_p6 : lw_okq (⟨"IronbridgeCache$Client", "placeOf", "(I)I"⟩, 12) := ⟨⟨by decide +kernel, by decide +kernel⟩, List.mem_of_getElem? (i := 35) (by decide +kernel), List.mem_of_getElem? (i := 431) (by decide +kernel), List.mem_of_getElem? (i := 432) (by decide +kernel)⟩
theorem lw_p7 : lw_okq (⟨"IronbridgeCache$Net", "bring", "(LIronbridgeCache$Table;I)V"⟩, 8) := ⟨⟨by decide +kernel, by decide +kernel⟩, List.mem_of_getElem? (i := 24) (by decide +kernel), List.mem_of_getElem? (i := 527) (by decide +kernel), List.mem_of_getElem? (i := 528) (by decide +kernel)⟩
theorem lw_p8 : lw_okq (⟨"IronbridgeCache$Net", "lookAtFirst", "(I)V"⟩, 8) := ⟨⟨by decide +kernel, by decide +kernel⟩, List.mem_of_getElem? (i := 24) (by decide +kernel), List.mem_of_getElem? (i := 543) (by decide +kernel), List.mem_of_getElem? (i := 544) (by decide +kernel)⟩
theorem lw_p9 : lw_okq (⟨"IronbridgeCache$Net", "callOthers", "(II)V"⟩, 8) := ⟨⟨by decide +kernel, by decide +kernel⟩, List.mem_of_getElem? (i := 24) (by decide +kernel), List.mem_of_getElem? (i := 547) (by decide +kernel), List.mem_of_getElem? (i := 548) (by decide +kernel)⟩
theorem lw_p10 : lw_okq (⟨"IronbridgeCache$Net", "answer", "(II)V"⟩, 8) := ⟨⟨by decide +kernel, by decide +kernel⟩, List.mem_of_getElem? (i := 24) (by decide +kernel), List.mem_of_getElem? (i := 561) (by decide +kernel), List.mem_of_getElem? (i := 562) (by decide +kernel)⟩
theorem lw_p11 : lw_okq (⟨"IronbridgeCache$Client", "makesRoom", "(I)Z"⟩, 12) := ⟨⟨by decide +kernel, by decide +kernel⟩, List.mem_of_getElem? (i := 35) (by decide +kernel), List.mem_of_getElem? (i := 573) (by decide +kernel), List.mem_of_getElem? (i := 574) (by decide +kernel)⟩
theorem lw_p12 : lw_okq (⟨"IronbridgeCache$Client", "keepAside", "(II)V"⟩, 12) := ⟨⟨by decide +kernel, by decide +kernel⟩, List.mem_of_getElem? (i := 35) (by decide +kernel), List.mem_of_getElem? (i := 594) (by decide +kernel), List.mem_of_getElem? (i := 595) (by decide +kernel)⟩
theorem lw_p13 : lw_okq (⟨"IronbridgeCache$Shelf", "leasedSet", "(I)I"⟩, 5) := ⟨⟨by decide +kernel, by decide +kernel⟩, List.mem_of_getElem? (i := 161) (by decide +kernel), List.mem_of_getElem? (i := 629) (by decide +kernel), List.mem_of_getElem? (i := 630) (by decide +kernel)⟩
def lw_privs_1 : List (MethodName × Nat) := [(⟨"java/lang/Throwable", "fillInStackTrace", "(I)Ljava/lang/Throwable;"⟩, 6), (⟨"IronbridgeCache", "checkClient", "(I)V"⟩, 2), (⟨"IronbridgeCache$Net", "sendStore", "(II)V"⟩, 8), (⟨"IronbridgeCache$Net", "send", "(IIIIII)V"⟩, 8), (⟨"IronbridgeCache$Net", "slotAt", "(I)LIronbridgeCache$Table;"⟩, 8), (⟨"IronbridgeCache$Table", "isCell", "(II)Z"⟩, 3), (⟨"IronbridgeCache$Client", "placeOf", "(I)I"⟩, 12), (⟨"IronbridgeCache$Net", "bring", "(LIronbridgeCache$Table;I)V"⟩, 8), (⟨"IronbridgeCache$Net", "lookAtFirst", "(I)V"⟩, 8), (⟨"IronbridgeCache$Net", "callOthers", "(II)V"⟩, 8), (⟨"IronbridgeCache$Net", "answer", "(II)V"⟩, 8), (⟨"IronbridgeCache$Client", "makesRoom", "(I)Z"⟩, 12), (⟨"IronbridgeCache$Client", "keepAside", "(II)V"⟩, 12), (⟨"IronbridgeCache$Shelf", "leasedSet", "(I)I"⟩, 5)]
theorem lw_r1 : ∀ q ∈ lw_privs_1, lw_okq q := List.forall_mem_cons.mpr ⟨lw_p0, List.forall_mem_cons.mpr ⟨lw_p1, List.forall_mem_cons.mpr ⟨lw_p2, List.forall_mem_cons.mpr ⟨lw_p3, List.forall_mem_cons.mpr ⟨lw_p4, List.forall_mem_cons.mpr ⟨lw_p5, List.forall_mem_cons.mpr ⟨lw_p6, List.forall_mem_cons.mpr ⟨lw_p7, List.forall_mem_cons.mpr ⟨lw_p8, List.forall_mem_cons.mpr ⟨lw_p9, List.forall_mem_cons.mpr ⟨lw_p10, List.forall_mem_cons.mpr ⟨lw_p11, List.forall_mem_cons.mpr ⟨lw_p12, List.forall_mem_cons.mpr ⟨lw_p13, fun _ h => absurd h List.not_mem_nil⟩⟩⟩⟩⟩⟩⟩⟩⟩⟩⟩⟩⟩⟩
def lw_privs : List (MethodName × Nat) := lw_privs_1
def lw_tbl : List Cond := k2_sels lw_privs ++ tables_1
theorem lw_privs_ok : ∀ q ∈ lw_privs, lw_okq q := lw_r1
/-- the streams that the claim lets the run draw from -/
abbrev lw_cs : List Choice := [Jvm.Choice.named "NaN.bits"]
theorem lw_bits : nanBits ∈ lw_cs := by first | decide | exact List.mem_cons_self | simp [lw_cs, nanBits]
-- ===== end of PART A; then your names; then what follows =====
def RX0 : String := "IronbridgeCache$Client"
def TX0 : u_T := fun k => match k with
  | 0 => ("IronbridgeCache$Client", "files", "[LIronbridgeCache$Held;", true)
  | 1 => ("IronbridgeCache$Client", "order", "[I", true)
  | 2 => ("IronbridgeCache$Client", "count", "I", false)
  | 3 => ("IronbridgeCache$Client", "kept", "LIronbridgeCache$Table;", true)
  | 4 => ("IronbridgeCache$Client", "delay", "I", false)
  | 5 => ("IronbridgeCache$Client", "habit", "I", false)
  | 6 => ("IronbridgeCache$Client", "isCut", "Z", false)
  | 7 => ("IronbridgeCache$Client", "hits", "I", false)
  | 8 => ("IronbridgeCache$Client", "misses", "I", false)
  | 9 => ("IronbridgeCache$Client", "conflicts", "I", false)
  | 10 => ("IronbridgeCache$Client", "calls", "I", false)
  | _ => ("IronbridgeCache$Client", "lost", "I", false)
def tyX0 : Nat → FieldType := fun k => match k with
  | 0 => .array (.object "IronbridgeCache$Held")
  | 1 => .array .int
  | 2 => .int
  | 3 => .object "IronbridgeCache$Table"
  | 4 => .int
  | 5 => .int
  | 6 => .boolean
  | 7 => .int
  | 8 => .int
  | 9 => .int
  | 10 => .int
  | _ => .int
abbrev wsX00 : List Cond := u_ws RX0 TX0 12
theorem nmX0 : ∀ a, a < 12 → ∀ b, b < 12 → a ≠ b → (TX0 a).2.1 ≠ (TX0 b).2.1 := by decide +kernel
theorem tyX0_ok : ∀ k, k < 12 → parseFieldDescriptor (TX0 k).2.2.1 = some (tyX0 k) := by decide +kernel
abbrev cX0_init : ByteArray := prog_2_method_1_code
def yX0_init : MethodName := ⟨RX0, "<init>", "()V"⟩
abbrev cX0_cutLine : ByteArray := prog_2_method_2_code
def yX0_cutLine : MethodName := ⟨RX0, "cutLine", "()V"⟩
abbrev cX0_endLeases : ByteArray := prog_2_method_3_code
def yX0_endLeases : MethodName := ⟨RX0, "endLeases", "()V"⟩
abbrev cX0_use : ByteArray := prog_2_method_4_code
def yX0_use : MethodName := ⟨RX0, "use", "(I)V"⟩
abbrev cX0_placeOf : ByteArray := prog_2_method_5_code
def yX0_placeOf : MethodName := ⟨RX0, "placeOf", "(I)I"⟩
abbrev cX0_letGo : ByteArray := prog_2_method_6_code
def yX0_letGo : MethodName := ⟨RX0, "letGo", "(I)V"⟩
abbrev cX0_takeGiven : ByteArray := prog_2_method_7_code
def yX0_takeGiven : MethodName := ⟨RX0, "takeGiven", "(IIIII)V"⟩
abbrev cX0_makesRoom : ByteArray := prog_2_method_8_code
def yX0_makesRoom : MethodName := ⟨RX0, "makesRoom", "(I)Z"⟩
abbrev cX0_takeCall : ByteArray := prog_2_method_9_code
def yX0_takeCall : MethodName := ⟨RX0, "takeCall", "(I)V"⟩
abbrev cX0_takeClash : ByteArray := prog_2_method_10_code
def yX0_takeClash : MethodName := ⟨RX0, "takeClash", "(III)Z"⟩
abbrev cX0_keepAside : ByteArray := prog_2_method_11_code
def yX0_keepAside : MethodName := ⟨RX0, "keepAside", "(II)V"⟩
abbrev cX0_longestDirty : ByteArray := prog_2_method_12_code
def yX0_longestDirty : MethodName := ⟨RX0, "longestDirty", "()I"⟩
abbrev cX0_isClean : ByteArray := prog_2_method_13_code
def yX0_isClean : MethodName := ⟨RX0, "isClean", "()Z"⟩
abbrev cX0_tell : ByteArray := prog_2_method_14_code
def yX0_tell : MethodName := ⟨RX0, "tell", "(I)I"⟩
abbrev cX0_addToDigest : ByteArray := prog_2_method_15_code
def yX0_addToDigest : MethodName := ⟨RX0, "addToDigest", "(JI)J"⟩
abbrev cX0_copyFrom : ByteArray := prog_2_method_16_code
def yX0_copyFrom : MethodName := ⟨RX0, "copyFrom", "(LIronbridgeCache$Client;)V"⟩
def RX1 : String := "IronbridgeCache$Held"
def TX1 : u_T := fun k => match k with
  | 0 => ("IronbridgeCache$Held", "isHeld", "Z", false)
  | 1 => ("IronbridgeCache$Held", "content", "I", false)
  | 2 => ("IronbridgeCache$Held", "version", "I", false)
  | 3 => ("IronbridgeCache$Held", "until", "I", false)
  | 4 => ("IronbridgeCache$Held", "isDirty", "Z", false)
  | 5 => ("IronbridgeCache$Held", "dirtySince", "I", false)
  | 6 => ("IronbridgeCache$Held", "asks", "Z", false)
  | _ => ("IronbridgeCache$Held", "sends", "Z", false)
def tyX1 : Nat → FieldType := fun k => match k with
  | 0 => .boolean
  | 1 => .int
  | 2 => .int
  | 3 => .int
  | 4 => .boolean
  | 5 => .int
  | 6 => .boolean
  | _ => .boolean
abbrev wsX10 : List Cond := u_ws RX1 TX1 8
theorem nmX1 : ∀ a, a < 8 → ∀ b, b < 8 → a ≠ b → (TX1 a).2.1 ≠ (TX1 b).2.1 := by decide +kernel
theorem tyX1_ok : ∀ k, k < 8 → parseFieldDescriptor (TX1 k).2.2.1 = some (tyX1 k) := by decide +kernel
abbrev cX1_init : ByteArray := prog_3_method_1_code
def yX1_init : MethodName := ⟨RX1, "<init>", "()V"⟩
abbrev cX1_isTrusted : ByteArray := prog_3_method_2_code
def yX1_isTrusted : MethodName := ⟨RX1, "isTrusted", "(IZ)Z"⟩
abbrev cX1_putContent : ByteArray := prog_3_method_3_code
def yX1_putContent : MethodName := ⟨RX1, "putContent", "(II)V"⟩
abbrev cX1_beGiven : ByteArray := prog_3_method_4_code
def yX1_beGiven : MethodName := ⟨RX1, "beGiven", "(III)V"⟩
abbrev cX1_beStored : ByteArray := prog_3_method_5_code
def yX1_beStored : MethodName := ⟨RX1, "beStored", "(III)V"⟩
abbrev cX1_tell : ByteArray := prog_3_method_6_code
def yX1_tell : MethodName := ⟨RX1, "tell", "(IIZ)I"⟩
abbrev cX1_copyFrom : ByteArray := prog_3_method_7_code
def yX1_copyFrom : MethodName := ⟨RX1, "copyFrom", "(LIronbridgeCache$Held;)V"⟩
def RX2 : String := "IronbridgeCache$Net"
def TX2 : u_T := fun k => match k with
  | 0 => ("IronbridgeCache$Net", "clock", "I", false)
  | 1 => ("IronbridgeCache$Net", "term", "I", false)
  | 2 => ("IronbridgeCache$Net", "lag", "I", false)
  | 3 => ("IronbridgeCache$Net", "room", "I", false)
  | 4 => ("IronbridgeCache$Net", "clientCount", "I", false)
  | 5 => ("IronbridgeCache$Net", "clients", "[LIronbridgeCache$Client;", true)
  | 6 => ("IronbridgeCache$Net", "shelves", "[LIronbridgeCache$Shelf;", true)
  | _ => ("IronbridgeCache$Net", "slots", "[LIronbridgeCache$Table;", true)
def tyX2 : Nat → FieldType := fun k => match k with
  | 0 => .int
  | 1 => .int
  | 2 => .int
  | 3 => .int
  | 4 => .int
  | 5 => .array (.object "IronbridgeCache$Client")
  | 6 => .array (.object "IronbridgeCache$Shelf")
  | _ => .array (.object "IronbridgeCache$Table")
abbrev wsX20 : List Cond := u_ws RX2 TX2 8
theorem nmX2 : ∀ a, a < 8 → ∀ b, b < 8 → a ≠ b → (TX2 a).2.1 ≠ (TX2 b).2.1 := by decide +kernel
theorem tyX2_ok : ∀ k, k < 8 → parseFieldDescriptor (TX2 k).2.2.1 = some (tyX2 k) := by decide +kernel
abbrev cX2_init : ByteArray := prog_4_method_1_code
def yX2_init : MethodName := ⟨RX2, "<init>", "()V"⟩
abbrev cX2_isClient : ByteArray := prog_4_method_2_code
def yX2_isClient : MethodName := ⟨RX2, "isClient", "(I)Z"⟩
abbrev cX2_join : ByteArray := prog_4_method_3_code
def yX2_join : MethodName := ⟨RX2, "join", "(II)I"⟩
abbrev cX2_slotAt : ByteArray := prog_4_method_4_code
def yX2_slotAt : MethodName := ⟨RX2, "slotAt", "(I)LIronbridgeCache$Table;"⟩
abbrev cX2_thingCount : ByteArray := prog_4_method_5_code
def yX2_thingCount : MethodName := ⟨RX2, "thingCount", "()I"⟩
abbrev cX2_tellThing : ByteArray := prog_4_method_6_code
def yX2_tellThing : MethodName := ⟨RX2, "tellThing", "(II)I"⟩
abbrev cX2_addThingsToDigest : ByteArray := prog_4_method_7_code
def yX2_addThingsToDigest : MethodName := ⟨RX2, "addThingsToDigest", "(J)J"⟩
abbrev cX2_send : ByteArray := prog_4_method_8_code
def yX2_send : MethodName := ⟨RX2, "send", "(IIIIII)V"⟩
abbrev cX2_sendStore : ByteArray := prog_4_method_9_code
def yX2_sendStore : MethodName := ⟨RX2, "sendStore", "(II)V"⟩
abbrev cX2_reach : ByteArray := prog_4_method_10_code
def yX2_reach : MethodName := ⟨RX2, "reach", "(II)Z"⟩
abbrev cX2_mendLine : ByteArray := prog_4_method_11_code
def yX2_mendLine : MethodName := ⟨RX2, "mendLine", "(I)I"⟩
abbrev cX2_sendDirty : ByteArray := prog_4_method_12_code
def yX2_sendDirty : MethodName := ⟨RX2, "sendDirty", "(II)I"⟩
abbrev cX2_passTick : ByteArray := prog_4_method_13_code
def yX2_passTick : MethodName := ⟨RX2, "passTick", "()V"⟩
abbrev cX2_bring : ByteArray := prog_4_method_14_code
def yX2_bring : MethodName := ⟨RX2, "bring", "(LIronbridgeCache$Table;I)V"⟩
abbrev cX2_lookAtFirst : ByteArray := prog_4_method_15_code
def yX2_lookAtFirst : MethodName := ⟨RX2, "lookAtFirst", "(I)V"⟩
abbrev cX2_callOthers : ByteArray := prog_4_method_16_code
def yX2_callOthers : MethodName := ⟨RX2, "callOthers", "(II)V"⟩
abbrev cX2_answer : ByteArray := prog_4_method_17_code
def yX2_answer : MethodName := ⟨RX2, "answer", "(II)V"⟩
abbrev cX2_isCalm : ByteArray := prog_4_method_18_code
def yX2_isCalm : MethodName := ⟨RX2, "isCalm", "()Z"⟩
abbrev cX2_staleCount : ByteArray := prog_4_method_19_code
def yX2_staleCount : MethodName := ⟨RX2, "staleCount", "()I"⟩
abbrev cX2_copyFrom : ByteArray := prog_4_method_20_code
def yX2_copyFrom : MethodName := ⟨RX2, "copyFrom", "(LIronbridgeCache$Net;)V"⟩
def RX3 : String := "IronbridgeCache$Shelf"
def TX3 : u_T := fun k => match k with
  | 0 => ("IronbridgeCache$Shelf", "content", "I", false)
  | 1 => ("IronbridgeCache$Shelf", "version", "I", false)
  | 2 => ("IronbridgeCache$Shelf", "until", "[I", true)
  | 3 => ("IronbridgeCache$Shelf", "requests", "LIronbridgeCache$Table;", true)
  | _ => ("IronbridgeCache$Shelf", "isFirstSeen", "Z", false)
def tyX3 : Nat → FieldType := fun k => match k with
  | 0 => .int
  | 1 => .int
  | 2 => .array .int
  | 3 => .object "IronbridgeCache$Table"
  | _ => .boolean
abbrev wsX30 : List Cond := u_ws RX3 TX3 5
theorem nmX3 : ∀ a, a < 5 → ∀ b, b < 5 → a ≠ b → (TX3 a).2.1 ≠ (TX3 b).2.1 := by decide +kernel
theorem tyX3_ok : ∀ k, k < 5 → parseFieldDescriptor (TX3 k).2.2.1 = some (tyX3 k) := by decide +kernel
abbrev cX3_init : ByteArray := prog_5_method_1_code
def yX3_init : MethodName := ⟨RX3, "<init>", "()V"⟩
abbrev cX3_isLeased : ByteArray := prog_5_method_2_code
def yX3_isLeased : MethodName := ⟨RX3, "isLeased", "(II)Z"⟩
abbrev cX3_hasToWait : ByteArray := prog_5_method_3_code
def yX3_hasToWait : MethodName := ⟨RX3, "hasToWait", "(II)Z"⟩
abbrev cX3_addRequest : ByteArray := prog_5_method_4_code
def yX3_addRequest : MethodName := ⟨RX3, "addRequest", "(IIII)I"⟩
abbrev cX3_leasedSet : ByteArray := prog_5_method_5_code
def yX3_leasedSet : MethodName := ⟨RX3, "leasedSet", "(I)I"⟩
abbrev cX3_tell : ByteArray := prog_5_method_6_code
def yX3_tell : MethodName := ⟨RX3, "tell", "(II)I"⟩
abbrev cX3_copyFrom : ByteArray := prog_5_method_7_code
def yX3_copyFrom : MethodName := ⟨RX3, "copyFrom", "(LIronbridgeCache$Shelf;)V"⟩
def RX4 : String := "IronbridgeCache$Table"
def TX4 : u_T := fun k => match k with
  | 0 => ("IronbridgeCache$Table", "width", "I", true)
  | 1 => ("IronbridgeCache$Table", "cells", "[I", false)
  | _ => ("IronbridgeCache$Table", "rows", "I", false)
def tyX4 : Nat → FieldType := fun k => match k with
  | 0 => .int
  | 1 => .array .int
  | _ => .int
abbrev wsX40 : List Cond := u_ws RX4 TX4 3
theorem nmX4 : ∀ a, a < 3 → ∀ b, b < 3 → a ≠ b → (TX4 a).2.1 ≠ (TX4 b).2.1 := by decide +kernel
theorem tyX4_ok : ∀ k, k < 3 → parseFieldDescriptor (TX4 k).2.2.1 = some (tyX4 k) := by decide +kernel
abbrev cX4_init : ByteArray := prog_6_method_1_code
def yX4_init : MethodName := ⟨RX4, "<init>", "(I)V"⟩
abbrev cX4_addRow : ByteArray := prog_6_method_2_code
def yX4_addRow : MethodName := ⟨RX4, "addRow", "()I"⟩
abbrev cX4_get : ByteArray := prog_6_method_3_code
def yX4_get : MethodName := ⟨RX4, "get", "(II)I"⟩
abbrev cX4_put : ByteArray := prog_6_method_4_code
def yX4_put : MethodName := ⟨RX4, "put", "(III)V"⟩
abbrev cX4_isCell : ByteArray := prog_6_method_5_code
def yX4_isCell : MethodName := ⟨RX4, "isCell", "(II)Z"⟩
abbrev cX4_dropFirst : ByteArray := prog_6_method_6_code
def yX4_dropFirst : MethodName := ⟨RX4, "dropFirst", "(I)V"⟩
abbrev cX4_copyFrom : ByteArray := prog_6_method_7_code
def yX4_copyFrom : MethodName := ⟨RX4, "copyFrom", "(LIronbridgeCache$Table;)V"⟩
def RX5 : String := "IronbridgeCache"
def TX5 : u_T := fun k => match k with
  | 0 => ("IronbridgeCache", "net", "LIronbridgeCache$Net;", true)
  | _ => ("IronbridgeCache", "trial", "LIronbridgeCache$Net;", true)
def tyX5 : Nat → FieldType := fun k => match k with
  | 0 => .object "IronbridgeCache$Net"
  | _ => .object "IronbridgeCache$Net"
abbrev wsX50 : List Cond := u_ws RX5 TX5 2
theorem nmX5 : ∀ a, a < 2 → ∀ b, b < 2 → a ≠ b → (TX5 a).2.1 ≠ (TX5 b).2.1 := by decide +kernel
theorem tyX5_ok : ∀ k, k < 2 → parseFieldDescriptor (TX5 k).2.2.1 = some (tyX5 k) := by decide +kernel
abbrev cX5_init : ByteArray := prog_1_method_1_code
def yX5_init : MethodName := ⟨RX5, "<init>", "()V"⟩
abbrev cX5_addClient : ByteArray := prog_1_method_2_code
def yX5_addClient : MethodName := ⟨RX5, "addClient", "(II)I"⟩
abbrev cX5_setTerm : ByteArray := prog_1_method_3_code
def yX5_setTerm : MethodName := ⟨RX5, "setTerm", "(II)I"⟩
abbrev cX5_setRoom : ByteArray := prog_1_method_4_code
def yX5_setRoom : MethodName := ⟨RX5, "setRoom", "(I)I"⟩
abbrev cX5_cut : ByteArray := prog_1_method_5_code
def yX5_cut : MethodName := ⟨RX5, "cut", "(IZ)I"⟩
abbrev cX5_read : ByteArray := prog_1_method_6_code
def yX5_read : MethodName := ⟨RX5, "read", "(II)I"⟩
abbrev cX5_write : ByteArray := prog_1_method_7_code
def yX5_write : MethodName := ⟨RX5, "write", "(III)Z"⟩
abbrev cX5_flush : ByteArray := prog_1_method_8_code
def yX5_flush : MethodName := ⟨RX5, "flush", "(I)I"⟩
abbrev cX5_tick : ByteArray := prog_1_method_9_code
def yX5_tick : MethodName := ⟨RX5, "tick", "(I)I"⟩
abbrev cX5_clock : ByteArray := prog_1_method_10_code
def yX5_clock : MethodName := ⟨RX5, "clock", "()I"⟩
abbrev cX5_clients : ByteArray := prog_1_method_11_code
def yX5_clients : MethodName := ⟨RX5, "clients", "()I"⟩
abbrev cX5_server : ByteArray := prog_1_method_12_code
def yX5_server : MethodName := ⟨RX5, "server", "(II)I"⟩
abbrev cX5_onTheWay : ByteArray := prog_1_method_15_code
def yX5_onTheWay : MethodName := ⟨RX5, "onTheWay", "()I"⟩
abbrev cX5_way : ByteArray := prog_1_method_16_code
def yX5_way : MethodName := ⟨RX5, "way", "(II)I"⟩
abbrev cX5_has : ByteArray := prog_1_method_17_code
def yX5_has : MethodName := ⟨RX5, "has", "(III)I"⟩
abbrev cX5_used : ByteArray := prog_1_method_18_code
def yX5_used : MethodName := ⟨RX5, "used", "(II)I"⟩
abbrev cX5_told : ByteArray := prog_1_method_19_code
def yX5_told : MethodName := ⟨RX5, "told", "(II)I"⟩
abbrev cX5_luck : ByteArray := prog_1_method_21_code
def yX5_luck : MethodName := ⟨RX5, "luck", "(I)D"⟩
abbrev cX5_stale : ByteArray := prog_1_method_22_code
def yX5_stale : MethodName := ⟨RX5, "stale", "()I"⟩
abbrev cX5_calmIn : ByteArray := prog_1_method_23_code
def yX5_calmIn : MethodName := ⟨RX5, "calmIn", "(I)I"⟩
abbrev cX5_contentIn : ByteArray := prog_1_method_24_code
def yX5_contentIn : MethodName := ⟨RX5, "contentIn", "(II)I"⟩
abbrev cX5_conflictsIn : ByteArray := prog_1_method_25_code
def yX5_conflictsIn : MethodName := ⟨RX5, "conflictsIn", "(II)I"⟩
abbrev cX5_digest : ByteArray := prog_1_method_26_code
def yX5_digest : MethodName := ⟨RX5, "digest", "()J"⟩
abbrev cX5_checkClient : ByteArray := prog_1_method_27_code
def yX5_checkClient : MethodName := ⟨RX5, "checkClient", "(I)V"⟩
abbrev cX5_checkFile : ByteArray := prog_1_method_28_code
def yX5_checkFile : MethodName := ⟨RX5, "checkFile", "(I)V"⟩
abbrev cX5_checkPlace : ByteArray := prog_1_method_29_code
def yX5_checkPlace : MethodName := ⟨RX5, "checkPlace", "(II)V"⟩
abbrev cX5_checkWhat : ByteArray := prog_1_method_30_code
def yX5_checkWhat : MethodName := ⟨RX5, "checkWhat", "(II)V"⟩
abbrev cX5_checkTicks : ByteArray := prog_1_method_31_code
def yX5_checkTicks : MethodName := ⟨RX5, "checkTicks", "(II)V"⟩
abbrev cX5_isFile : ByteArray := prog_1_method_32_code
def yX5_isFile : MethodName := ⟨RX5, "isFile", "(I)Z"⟩
def RJ9 : String := "java/lang/Math"
def TJ9 : u_T := fun k => match k with
  | _ => ("", "", "", false)
def tyJ9 : Nat → FieldType := fun k => match k with
  | _ => .int
abbrev wsJ90 : List Cond := u_ws RJ9 TJ9 0
theorem nmJ9 : ∀ a, a < 0 → ∀ b, b < 0 → a ≠ b → (TJ9 a).2.1 ≠ (TJ9 b).2.1 := by decide +kernel
theorem tyJ9_ok : ∀ k, k < 0 → parseFieldDescriptor (TJ9 k).2.2.1 = some (tyJ9 k) := by decide +kernel
abbrev cJ9_floorMod_7cf53 : ByteArray := prog_16_method_50_code
def yJ9_floorMod_7cf53 : MethodName := ⟨RJ9, "floorMod", "(II)I"⟩
abbrev cJ9_max_7cf53 : ByteArray := prog_16_method_65_code
def yJ9_max_7cf53 : MethodName := ⟨RJ9, "max", "(II)I"⟩
def RL : String := "IronbridgeCacheLaw"
abbrev cL_below : ByteArray := method_2_code
def yL_below : MethodName := ⟨RL, "below", "(II)I"⟩
abbrev cL_cell : ByteArray := method_3_code
def yL_cell : MethodName := ⟨RL, "cell", "([II)I"⟩
abbrev cL_law : ByteArray := code
def yL_law : MethodName := ⟨RL, "law", "([I)Z"⟩
abbrev cL_isTicked : ByteArray := method_5_code
def yL_isTicked : MethodName := ⟨RL, "isTicked", "(LIronbridgeCache;I)Z"⟩
abbrev cL_areClientsRight : ByteArray := method_6_code
def yL_areClientsRight : MethodName := ⟨RL, "areClientsRight", "(LIronbridgeCache;[IZ)Z"⟩
abbrev cL_areUsedRight : ByteArray := method_7_code
def yL_areUsedRight : MethodName := ⟨RL, "areUsedRight", "(LIronbridgeCache;II)Z"⟩
abbrev cL_isWayRight : ByteArray := method_8_code
def yL_isWayRight : MethodName := ⟨RL, "isWayRight", "(LIronbridgeCache;)Z"⟩
/-! method data: name, bytes, locals, what it answers -/
abbrev MD : Type := MethodName × ByteArray × Nat × Option FieldType
def mJ9_floorMod_7cf53 : MD := (yJ9_floorMod_7cf53, cJ9_floorMod_7cf53, 3, (some .int))
def mJ9_max_7cf53 : MD := (yJ9_max_7cf53, cJ9_max_7cf53, 2, (some .int))
def mL_areClientsRight : MD := (yL_areClientsRight, cL_areClientsRight, 8, (some .boolean))
def mL_areUsedRight : MD := (yL_areUsedRight, cL_areUsedRight, 6, (some .boolean))
def mL_below : MD := (yL_below, cL_below, 2, (some .int))
def mL_cell : MD := (yL_cell, cL_cell, 2, (some .int))
def mL_isTicked : MD := (yL_isTicked, cL_isTicked, 7, (some .boolean))
def mL_isWayRight : MD := (yL_isWayRight, cL_isWayRight, 3, (some .boolean))
def mX0_addToDigest : MD := (yX0_addToDigest, cX0_addToDigest, 8, (some .long))
def mX0_copyFrom : MD := (yX0_copyFrom, cX0_copyFrom, 3, none)
def mX0_cutLine : MD := (yX0_cutLine, cX0_cutLine, 2, none)
def mX0_endLeases : MD := (yX0_endLeases, cX0_endLeases, 2, none)
def mX0_init : MD := (yX0_init, cX0_init, 2, none)
def mX0_isClean : MD := (yX0_isClean, cX0_isClean, 2, (some .boolean))
def mX0_keepAside : MD := (yX0_keepAside, cX0_keepAside, 4, none)
def mX0_letGo : MD := (yX0_letGo, cX0_letGo, 4, none)
def mX0_longestDirty : MD := (yX0_longestDirty, cX0_longestDirty, 4, (some .int))
def mX0_makesRoom : MD := (yX0_makesRoom, cX0_makesRoom, 4, (some .boolean))
def mX0_placeOf : MD := (yX0_placeOf, cX0_placeOf, 3, (some .int))
def mX0_takeCall : MD := (yX0_takeCall, cX0_takeCall, 2, none)
def mX0_takeClash : MD := (yX0_takeClash, cX0_takeClash, 5, (some .boolean))
def mX0_takeGiven : MD := (yX0_takeGiven, cX0_takeGiven, 7, none)
def mX0_tell : MD := (yX0_tell, cX0_tell, 2, (some .int))
def mX0_use : MD := (yX0_use, cX0_use, 4, none)
def mX1_beGiven : MD := (yX1_beGiven, cX1_beGiven, 4, none)
def mX1_beStored : MD := (yX1_beStored, cX1_beStored, 4, none)
def mX1_copyFrom : MD := (yX1_copyFrom, cX1_copyFrom, 2, none)
def mX1_init : MD := (yX1_init, cX1_init, 1, none)
def mX1_isTrusted : MD := (yX1_isTrusted, cX1_isTrusted, 3, (some .boolean))
def mX1_putContent : MD := (yX1_putContent, cX1_putContent, 3, none)
def mX1_tell : MD := (yX1_tell, cX1_tell, 4, (some .int))
def mX2_addThingsToDigest : MD := (yX2_addThingsToDigest, cX2_addThingsToDigest, 9, (some .long))
def mX2_answer : MD := (yX2_answer, cX2_answer, 6, none)
def mX2_bring : MD := (yX2_bring, cX2_bring, 10, none)
def mX2_callOthers : MD := (yX2_callOthers, cX2_callOthers, 6, none)
def mX2_copyFrom : MD := (yX2_copyFrom, cX2_copyFrom, 3, none)
def mX2_init : MD := (yX2_init, cX2_init, 2, none)
def mX2_isCalm : MD := (yX2_isCalm, cX2_isCalm, 2, (some .boolean))
def mX2_isClient : MD := (yX2_isClient, cX2_isClient, 2, (some .boolean))
def mX2_join : MD := (yX2_join, cX2_join, 3, (some .int))
def mX2_lookAtFirst : MD := (yX2_lookAtFirst, cX2_lookAtFirst, 5, none)
def mX2_mendLine : MD := (yX2_mendLine, cX2_mendLine, 6, (some .int))
def mX2_passTick : MD := (yX2_passTick, cX2_passTick, 4, none)
def mX2_reach : MD := (yX2_reach, cX2_reach, 5, (some .boolean))
def mX2_send : MD := (yX2_send, cX2_send, 10, none)
def mX2_sendDirty : MD := (yX2_sendDirty, cX2_sendDirty, 7, (some .int))
def mX2_sendStore : MD := (yX2_sendStore, cX2_sendStore, 4, none)
def mX2_slotAt : MD := (yX2_slotAt, cX2_slotAt, 2, (some (.object "IronbridgeCache$Table")))
def mX2_staleCount : MD := (yX2_staleCount, cX2_staleCount, 5, (some .int))
def mX2_tellThing : MD := (yX2_tellThing, cX2_tellThing, 6, (some .int))
def mX2_thingCount : MD := (yX2_thingCount, cX2_thingCount, 3, (some .int))
def mX3_addRequest : MD := (yX3_addRequest, cX3_addRequest, 6, (some .int))
def mX3_copyFrom : MD := (yX3_copyFrom, cX3_copyFrom, 3, none)
def mX3_hasToWait : MD := (yX3_hasToWait, cX3_hasToWait, 5, (some .boolean))
def mX3_init : MD := (yX3_init, cX3_init, 1, none)
def mX3_isLeased : MD := (yX3_isLeased, cX3_isLeased, 3, (some .boolean))
def mX3_leasedSet : MD := (yX3_leasedSet, cX3_leasedSet, 4, (some .int))
def mX3_tell : MD := (yX3_tell, cX3_tell, 3, (some .int))
def mX4_addRow : MD := (yX4_addRow, cX4_addRow, 3, (some .int))
def mX4_copyFrom : MD := (yX4_copyFrom, cX4_copyFrom, 3, none)
def mX4_dropFirst : MD := (yX4_dropFirst, cX4_dropFirst, 2, none)
def mX4_get : MD := (yX4_get, cX4_get, 3, (some .int))
def mX4_init : MD := (yX4_init, cX4_init, 2, none)
def mX4_isCell : MD := (yX4_isCell, cX4_isCell, 3, (some .boolean))
def mX4_put : MD := (yX4_put, cX4_put, 4, none)
def mX5_addClient : MD := (yX5_addClient, cX5_addClient, 3, (some .int))
def mX5_calmIn : MD := (yX5_calmIn, cX5_calmIn, 3, (some .int))
def mX5_checkClient : MD := (yX5_checkClient, cX5_checkClient, 2, none)
def mX5_checkFile : MD := (yX5_checkFile, cX5_checkFile, 1, none)
def mX5_checkPlace : MD := (yX5_checkPlace, cX5_checkPlace, 2, none)
def mX5_checkTicks : MD := (yX5_checkTicks, cX5_checkTicks, 2, none)
def mX5_checkWhat : MD := (yX5_checkWhat, cX5_checkWhat, 2, none)
def mX5_clients : MD := (yX5_clients, cX5_clients, 1, (some .int))
def mX5_clock : MD := (yX5_clock, cX5_clock, 1, (some .int))
def mX5_conflictsIn : MD := (yX5_conflictsIn, cX5_conflictsIn, 4, (some .int))
def mX5_contentIn : MD := (yX5_contentIn, cX5_contentIn, 4, (some .int))
def mX5_cut : MD := (yX5_cut, cX5_cut, 3, (some .int))
def mX5_digest : MD := (yX5_digest, cX5_digest, 5, (some .long))
def mX5_flush : MD := (yX5_flush, cX5_flush, 2, (some .int))
def mX5_has : MD := (yX5_has, cX5_has, 5, (some .int))
def mX5_init : MD := (yX5_init, cX5_init, 1, none)
def mX5_isFile : MD := (yX5_isFile, cX5_isFile, 1, (some .boolean))
def mX5_luck : MD := (yX5_luck, cX5_luck, 4, (some .double))
def mX5_onTheWay : MD := (yX5_onTheWay, cX5_onTheWay, 1, (some .int))
def mX5_read : MD := (yX5_read, cX5_read, 3, (some .int))
def mX5_server : MD := (yX5_server, cX5_server, 3, (some .int))
def mX5_setRoom : MD := (yX5_setRoom, cX5_setRoom, 3, (some .int))
def mX5_setTerm : MD := (yX5_setTerm, cX5_setTerm, 4, (some .int))
def mX5_stale : MD := (yX5_stale, cX5_stale, 1, (some .int))
def mX5_tick : MD := (yX5_tick, cX5_tick, 3, (some .int))
def mX5_told : MD := (yX5_told, cX5_told, 3, (some .int))
def mX5_used : MD := (yX5_used, cX5_used, 4, (some .int))
def mX5_way : MD := (yX5_way, cX5_way, 3, (some .int))
def mX5_write : MD := (yX5_write, cX5_write, 4, (some .boolean))
def mL_law : MD := (yL_law, cL_law, 13, ret)
/-- the words of the tables that a caller can hand on -/
def Wall : List Cond := lw_tbl.filter goodWord
theorem Wall_good : ∀ w ∈ Wall, (w.onTables && w.keeps) = true ∨ ∃ ty, w = .arrayClass ty := fun w h => good_of_word (List.mem_filter.mp h).2
theorem Wall_tbl : ∀ w ∈ Wall, w ∈ lw_tbl := fun w h => (List.mem_filter.mp h).1
theorem inWall {w : Cond} (h : (decide (w ∈ lw_tbl) && goodWord w) = true) : w ∈ Wall := by
  simp only [Bool.and_eq_true, decide_eq_true_eq] at h
  exact List.mem_filter.mpr h
def wsM (M : MD) : List Cond := .code M.1 M.2.1 M.2.2.1 M.2.2.2 :: Wall
/-- links between nest mates, that the start gives -/
def nestF : List (String × Nat × String × String × String) := [("IronbridgeCache", 110, "IronbridgeCache$Net", "shelves", "[LIronbridgeCache$Shelf;"),
  ("IronbridgeCache", 144, "IronbridgeCache$Client", "isCut", "Z"),
  ("IronbridgeCache", 151, "IronbridgeCache$Client", "count", "I"),
  ("IronbridgeCache", 154, "IronbridgeCache$Client", "order", "[I"),
  ("IronbridgeCache", 162, "IronbridgeCache$Client", "hits", "I"),
  ("IronbridgeCache", 165, "IronbridgeCache$Client", "misses", "I"),
  ("IronbridgeCache", 179, "IronbridgeCache$Shelf", "content", "I"),
  ("IronbridgeCache", 180, "IronbridgeCache$Client", "conflicts", "I"),
  ("IronbridgeCache", 26, "IronbridgeCache$Net", "clientCount", "I"),
  ("IronbridgeCache", 41, "IronbridgeCache$Net", "term", "I"),
  ("IronbridgeCache", 44, "IronbridgeCache$Net", "lag", "I"),
  ("IronbridgeCache", 49, "IronbridgeCache$Net", "room", "I"),
  ("IronbridgeCache", 60, "IronbridgeCache$Net", "clients", "[LIronbridgeCache$Client;"),
  ("IronbridgeCache", 76, "IronbridgeCache$Client", "files", "[LIronbridgeCache$Held;"),
  ("IronbridgeCache", 80, "IronbridgeCache$Held", "content", "I"),
  ("IronbridgeCache", 87, "IronbridgeCache$Net", "clock", "I"),
  ("IronbridgeCache$Client", 107, "IronbridgeCache$Held", "dirtySince", "I"),
  ("IronbridgeCache$Client", 39, "IronbridgeCache$Held", "asks", "Z"),
  ("IronbridgeCache$Client", 42, "IronbridgeCache$Held", "sends", "Z"),
  ("IronbridgeCache$Client", 45, "IronbridgeCache$Held", "until", "I"),
  ("IronbridgeCache$Client", 55, "IronbridgeCache$Held", "isHeld", "Z"),
  ("IronbridgeCache$Client", 58, "IronbridgeCache$Held", "isDirty", "Z"),
  ("IronbridgeCache$Client", 84, "IronbridgeCache$Held", "version", "I"),
  ("IronbridgeCache$Client", 87, "IronbridgeCache$Held", "content", "I"),
  ("IronbridgeCache$Client", 94, "IronbridgeCache$Table", "rows", "I"),
  ("IronbridgeCache$Net", 109, "IronbridgeCache$Client", "hits", "I"),
  ("IronbridgeCache$Net", 115, "IronbridgeCache$Client", "misses", "I"),
  ("IronbridgeCache$Net", 118, "IronbridgeCache$Held", "asks", "Z"),
  ("IronbridgeCache$Net", 131, "IronbridgeCache$Held", "isDirty", "Z"),
  ("IronbridgeCache$Net", 134, "IronbridgeCache$Held", "dirtySince", "I"),
  ("IronbridgeCache$Net", 154, "IronbridgeCache$Client", "lost", "I"),
  ("IronbridgeCache$Net", 161, "IronbridgeCache$Shelf", "until", "[I"),
  ("IronbridgeCache$Net", 179, "IronbridgeCache$Shelf", "requests", "LIronbridgeCache$Table;"),
  ("IronbridgeCache$Net", 193, "IronbridgeCache$Shelf", "isFirstSeen", "Z"),
  ("IronbridgeCache$Net", 202, "IronbridgeCache$Shelf", "version", "I"),
  ("IronbridgeCache$Net", 203, "IronbridgeCache$Shelf", "content", "I"),
  ("IronbridgeCache$Net", 47, "IronbridgeCache$Client", "delay", "I"),
  ("IronbridgeCache$Net", 50, "IronbridgeCache$Client", "habit", "I"),
  ("IronbridgeCache$Net", 59, "IronbridgeCache$Table", "rows", "I"),
  ("IronbridgeCache$Net", 82, "IronbridgeCache$Client", "isCut", "Z"),
  ("IronbridgeCache$Net", 86, "IronbridgeCache$Client", "files", "[LIronbridgeCache$Held;"),
  ("IronbridgeCache$Net", 90, "IronbridgeCache$Held", "sends", "Z"),
  ("IronbridgeCache$Net", 95, "IronbridgeCache$Held", "content", "I"),
  ("IronbridgeCache$Net", 98, "IronbridgeCache$Held", "version", "I"),
  ("IronbridgeCache$Shelf", 47, "IronbridgeCache$Table", "rows", "I")]
def nestM : List (String × Nat × MethodName) := [("IronbridgeCache$Client", 34, ⟨"IronbridgeCache$Held", "<init>", "()V"⟩),
  ("IronbridgeCache$Net", 151, ⟨"IronbridgeCache", "isFile", "(I)Z"⟩),
  ("IronbridgeCache$Net", 40, ⟨"IronbridgeCache$Shelf", "<init>", "()V"⟩)]
def nestL : List Cond := nestF.map (fun q => .fieldLinkNest q.1 q.2.1 q.2.2.1 q.2.2.2.1 q.2.2.2.2 "IronbridgeCache") ++ nestM.map (fun q => .methodLinkNest q.1 q.2.1 q.2.2 "IronbridgeCache")
theorem nestL_tables : ∀ w ∈ nestL, w.onTables = true := by
  intro w h
  rcases List.mem_append.mp h with h | h <;> obtain ⟨q, -, rfl⟩ := List.mem_map.mp h <;> rfl
theorem nest_same {u U : State} (hvm : u.vm = U.vm) (h : ∀ w ∈ nestL, va_Nw w u) : ∀ w ∈ nestL, va_Nw w U := fun w hw => (h w hw).same (nestL_tables w hw) hvm
theorem nest_warm {s U : State} (hW : s.WarmedH U.vm) (h : ∀ w ∈ nestL, va_Nw w s) : ∀ w ∈ nestL, va_Nw w U := by
  intro w hw
  have h1 := h w hw
  rcases List.mem_append.mp hw with hw | hw <;> obtain ⟨q, -, rfl⟩ := List.mem_map.mp hw
  · exact h1.warmF hW
  · exact h1.warmM hW
abbrev vwCl : List vw_C := [(RX0, TX0, 12), (RX1, TX1, 8), (RX2, TX2, 8), (RX3, TX3, 5), (RX4, TX4, 3), (RX5, TX5, 2)]
theorem inW0 : ∀ w ∈ wsX00, w ∈ Wall := fun w h => inWall (List.all_eq_true.mp (show wsX00.all (fun w => decide (w ∈ lw_tbl) && goodWord w) = true by decide +kernel) w h)
theorem inW1 : ∀ w ∈ wsX10, w ∈ Wall := fun w h => inWall (List.all_eq_true.mp (show wsX10.all (fun w => decide (w ∈ lw_tbl) && goodWord w) = true by decide +kernel) w h)
theorem inW2 : ∀ w ∈ wsX20, w ∈ Wall := fun w h => inWall (List.all_eq_true.mp (show wsX20.all (fun w => decide (w ∈ lw_tbl) && goodWord w) = true by decide +kernel) w h)
theorem inW3 : ∀ w ∈ wsX30, w ∈ Wall := fun w h => inWall (List.all_eq_true.mp (show wsX30.all (fun w => decide (w ∈ lw_tbl) && goodWord w) = true by decide +kernel) w h)
theorem inW4 : ∀ w ∈ wsX40, w ∈ Wall := fun w h => inWall (List.all_eq_true.mp (show wsX40.all (fun w => decide (w ∈ lw_tbl) && goodWord w) = true by decide +kernel) w h)
theorem inW5 : ∀ w ∈ wsX50, w ∈ Wall := fun w h => inWall (List.all_eq_true.mp (show wsX50.all (fun w => decide (w ∈ lw_tbl) && goodWord w) = true by decide +kernel) w h)
